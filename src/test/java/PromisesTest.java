/** Promises 6 to 38, by runs that were gone through by hand. */
public final class PromisesTest {
    private static final Check check = new Check();
    private static final int NONE = WorkEnds.NONE;

    public static void main(String[] args) {
        smallRun();
        manyAndNodeOnTheWay();
        chainsAndLast();
        mintsAndLateMints();
        eventsKept();
        cuts();
        addsAndSleeps();
        plansThatChange();
        wiresThatChange();
        marks();
        bounds();
        onPaper();
        statusOrder();
        check.end();
    }

    /** Two NODES, WIRES of 1; the ROOT has 3 units and sends NODE 1 two of them as it has done 2. */
    private static WorkEnds small() {
        WorkEnds x = new WorkEnds();
        x.plan(0, 2, 1, 2);
        x.begin(3);
        return x;
    }

    private static void nodeIs(WorkEnds x, int node, int... due) {
        for (int what = 0; what < due.length; what++) {
            check.fine(x, "node(" + node + ", " + what + ") at " + x.many(2), x.node(node, what), due[what]);
        }
    }

    private static void watchIs(WorkEnds x, int watch, int... due) {
        for (int what = 0; what < due.length; what++) {
            check.fine(x, "watch(" + watch + ", " + what + ") at " + x.many(2), x.watch(watch, what), due[what]);
        }
    }

    private static void letterIs(WorkEnds x, int i, int... due) {
        for (int what = 0; what < due.length; what++) {
            check.fine(x, "letter(" + i + ", " + what + ") at " + x.many(2), x.letter(i, what), due[what]);
        }
    }

    private static void eventIs(WorkEnds x, int i, int... due) {
        for (int what = 0; what < due.length; what++) {
            check.fine(x, "event(" + i + ", " + what + ") at " + x.many(2), x.event(i, what), due[what]);
        }
    }

    private static void ledgerIs(WorkEnds x, int from, int to, int... due) {
        for (int what = 0; what < due.length; what++) {
            check.fine(x, "ledger(" + from + ", " + to + ", " + what + ")", x.ledger(from, to, what), due[what]);
        }
    }

    private static void lastIs(WorkEnds x, int... due) {
        for (int what = 0; what < due.length; what++) {
            check.fine(x, "last(" + what + ")", x.last(what), due[what]);
        }
    }

    private static void cuttingIs(WorkEnds x, int... due) {
        for (int what = 0; what < due.length; what++) {
            check.fine(x, "cutting(" + what + ") at " + x.many(2), x.cutting(what), due[what]);
        }
    }

    private static void smallRun() {
        WorkEnds x = small();
        watchIs(x, 0, NONE, 0, 0, 0, 0, 0);
        watchIs(x, 1, NONE, 0, 0, 0, 0, 0);
        watchIs(x, 2, NONE, 0, 0, 0, 1048576, 0);
        watchIs(x, 3, NONE, 0, 0, 0, 0, 0);
        nodeIs(x, 0, 3, 0, 0, 0, NONE, 1, 0, 0, 0, 1048576, 0, 0, 0, 0);
        nodeIs(x, 1, 0, 0, 0, 0, NONE, 0, 0, 0, 0, 0, 0, 0, 0, 0);
        x.tick(2);
        nodeIs(x, 0, 1, 2, 1, 0, NONE, 1, 1, 1, 0, 524288, 0, 0, 0, 0);
        letterIs(x, 0, 0, 0, 1, 1, 2, 524288, 1, 0);
        check.fine(x, "weights(1)", x.weights(1), 524288);
        watchIs(x, 0, NONE, 0, 1, 0, 1, 0);
        x.tick(1);
        nodeIs(x, 0, 0, 3, 1, 0, NONE, 1, 1, 1, 0, 0, 2, 0, 0, 0);
        nodeIs(x, 1, 1, 1, 0, 1, 0, 1, 0, -1, 1, 524288, 0, 1, 0, 0);
        letterIs(x, 0, 2, 0, 1, 1, 0, 0, 0, 0);
        letterIs(x, 1, 4, 0, 1, 1, 0, 0, 0, 0);
        check.refused(x, "letter(2, 0)", x.letter(2, 0), 5);
        watchIs(x, 0, NONE, 0, 2, 0, 1, 1);
        watchIs(x, 1, NONE, 1, 1, NONE, 0, 0);
        watchIs(x, 2, NONE, 0, 0, 0, 1048576, 524288);
        watchIs(x, 3, NONE, 1, 1, NONE, 1, 0);
        check.refused(x, "last(0) ahead of TRUTH", x.last(0), 5);
        check.refused(x, "best(0) ahead of TRUTH", x.best(0), 5);
        x.tick(1);
        check.fine(x, "many(10)", x.many(10), 4);
        nodeIs(x, 1, 0, 2, 0, 1, NONE, 0, 0, -1, 0, 0, 0, 1, 0, 0);
        letterIs(x, 0, 1, 1, 0, 1, 0, 0, 0, 0);
        letterIs(x, 1, 2, 1, 0, 1, 0, 0, 0, 0);
        letterIs(x, 2, 3, 1, 0, 1, 0, 524288, 0, 0);
        letterIs(x, 3, 4, 1, 0, 1, 0, 0, 0, 0);
        watchIs(x, 1, NONE, 2, 1, NONE, -1, 1);
        watchIs(x, 3, NONE, 2, 1, NONE, 1, 1);
        check.refused(x, "best(1) at TRUTH", x.best(1), 5);
        x.tick(1);
        check.fine(x, "best(0)", x.best(0), 0);
        check.fine(x, "lag(0)", x.lag(0), 1);
        check.refused(x, "lag(1)", x.lag(1), 5);
        check.fine(x, "lag(2)", x.lag(2), 1);
        check.refused(x, "lag(3)", x.lag(3), 5);
        x.tick(20);
        smallRunsEnd(x);
    }

    private static void smallRunsEnd(WorkEnds x) {
        watchIs(x, 0, 5, 1, 2, 0, 0, 0);
        watchIs(x, 1, 7, 4, 2, 0, -1, 0);
        watchIs(x, 2, 5, 1, 0, 0, 1048576, 1048576);
        watchIs(x, 3, 7, 4, 2, 0, 1, 1);
        int[] lags = {1, 3, 1, 3};
        for (int w = 0; w < 4; w++) {
            check.fine(x, "lag(" + w + ")", x.lag(w), lags[w]);
        }
        check.fine(x, "best(0)", x.best(0), 0);
        check.fine(x, "best(1)", x.best(1), 0);
        lastIs(x, 1, 0, 1, 3);
        ledgerIs(x, 0, 1, 1, 4, 5, 2);
        ledgerIs(x, 1, 0, 0, 6, 6, 4);
        int[][] events = {{4, 7, 3}, {4, 7, 1}, {6, 5, 3}, {4, 5, 2}, {6, 5, 1}, {4, 5, 0}, {3, 4, 1}, {2, 4, 1},
            {6, 3, 3}, {6, 3, 1}, {2, 3, 0}, {1, 3, 1}, {0, 0, 3}};
        for (int i = 0; i < events.length; i++) {
            eventIs(x, i, events[i]);
        }
        check.refused(x, "event(13, 0)", x.event(13, 0), 5);
        int[] weights = {0, 0, 1048576, 1048576};
        int[] many = {2, 1, 25, 0, 0, 5, 0, 0, 1, 0, 4, 0};
        for (int what = 0; what < 12; what++) {
            check.fine(x, "many(" + what + ")", x.many(what), many[what]);
            if (what < 4) {
                check.fine(x, "weights(" + what + ")", x.weights(what), weights[what]);
            }
        }
        // As work BEGINS again all of it is anew, but the TICK and the EVENTS.
        check.fine(x, "begin(200)", x.begin(200), 25);
        check.fine(x, "many(9)", x.many(9), 25);
        check.fine(x, "many(10)", x.many(10), NONE);
        check.fine(x, "many(8)", x.many(8), 0);
        ledgerIs(x, 1, 0, 0, 0, 0, 0);
        watchIs(x, 0, NONE, 0, 0, 0, 0, 0);
        watchIs(x, 1, NONE, 0, 0, 0, 0, 0);
        watchIs(x, 3, NONE, 0, 0, 0, 0, 0);
        nodeIs(x, 1, 0, 0, 0, 0, NONE, 0, 0, 0, 0, 0, 0, 0, 0, 0);
        eventIs(x, 0, 0, 25, 200);
        eventIs(x, 1, 4, 7, 3);
    }

    private static void manyAndNodeOnTheWay() {
        WorkEnds x = Texts.of("nodes 4;both 0 3 2;plan 0 1 3 4;plan 0 1 2 1;plan 0 1 3 2;plan 3 1 1 5;");
        x.begin(2);
        x.tick(1);
        check.fine(x, "many(6)", x.many(6), 3);
        check.fine(x, "many(7)", x.many(7), 0);
        letterIs(x, 0, 0, 0, 3, 2, 4, 524288, 1, 0);
        letterIs(x, 1, 0, 0, 2, 1, 1, 262144, 1, 0);
        letterIs(x, 2, 0, 0, 3, 2, 2, 131072, 1, 0);
        check.fine(x, "node(0, 9)", x.node(0, 9), 131072);
        x.tick(1);
        // NODE 2 got 1, did it, and is out of the TREE again.
        check.fine(x, "many(3)", x.many(3), 0);
        check.fine(x, "many(4)", x.many(4), 0);
        check.fine(x, "many(5)", x.many(5), 3);
        check.fine(x, "many(6)", x.many(6), 2);
        // The TOKEN to NODE 3, the VISITOR to NODE 1, an ACK and a WEIGHT of NODE 2.
        check.fine(x, "many(7)", x.many(7), 4);
        nodeIs(x, 2, 0, 1, 0, 1, NONE, 0, 0, -1, 1, 0, 0, 1, 0, 0);
        x.tick(1);
        // The first brings NODE 3 into the TREE, it sends an ACK for the other at once.
        nodeIs(x, 3, 5, 1, 1, 2, 0, 1, 1, -1, 1, 327680, 0, 1, 0, 0);
        check.fine(x, "node(0, 10)", x.node(0, 10), 8);
        check.fine(x, "watch(0, 1)", x.watch(0, 1), 2);
        check.fine(x, "many(3)", x.many(3), 8);
        x.tick(1);
        nodeIs(x, 1, 4, 1, 0, 1, 3, 1, 0, -1, 1, 327680, 0, 2, 0, 0);
        check.fine(x, "node(3, 10)", x.node(3, 10), 2);
        check.fine(x, "node(0, 10)", x.node(0, 10), 8);
        watchIs(x, 0, NONE, 2, 3, 0, 3, 2);
        check.fine(x, "many(3)", x.many(3), 10);
    }

    private static void chainsAndLast() {
        WorkEnds x = Texts.of("nodes 3;plan 0 1 1 1;plan 1 1 2 1;plan 2 1 0 1;plan 0 2 1 1;plan 1 2 0 3;");
        x.begin(1);
        x.tick(300);
        // The LETTERS: 0 to 1, 1 to 2, 2 to 0, 0 to 1, 1 to 0: each the child of the one ahead.
        check.fine(x, "many(8)", x.many(8), 5);
        check.fine(x, "many(10)", x.many(10), 8);
        lastIs(x, 5, 1, 0, 6);
        check.fine(x, "node(2, 11)", x.node(2, 11), 2);
        check.fine(x, "node(1, 11)", x.node(1, 11), 4);
        // The ROOT is the last to be IDLE, and no LETTER made it BUSY.
        x.begin(9);
        x.tick(300);
        check.fine(x, "many(10)", x.many(10) - x.many(9), 9 + 1 + 3);
        check.fine(x, "node(0, 11)", x.node(0, 11), 0);
        check.refused(x, "last(0)", x.last(0), 5);
        // Of several in one TICK the greatest; a LETTER that comes to a BUSY NODE changes nothing of it.
        x = Texts.of("nodes 3;plan 0 1 1 2;plan 0 1 2 1;plan 0 2 2 1;");
        x.begin(2);
        x.tick(300);
        check.fine(x, "many(10)", x.many(10), 3);
        lastIs(x, 1, 0, 2, 3);
        x = Texts.of("nodes 3;plan 0 1 1 1;plan 0 1 2 3;plan 1 1 2 1;");
        x.begin(1);
        x.tick(3);
        check.fine(x, "node(2, 11)", x.node(2, 11), 1);
        x.tick(300);
        lastIs(x, 1, 0, 2, 2);
    }

    private static void mintsAndLateMints() {
        WorkEnds x = new WorkEnds();
        for (int i = 0; i < 40; i++) {
            x.plan(0, 1, 1, 1);
        }
        x.begin(1);
        x.tick(1);
        // 20 LETTERS take it down to 1; a MINT makes 1,025, which 11 more take down to 1 again; then another.
        check.fine(x, "letter(19, 5)", x.letter(19, 5), 1);
        check.fine(x, "letter(20, 5)", x.letter(20, 5), 512);
        check.fine(x, "letter(21, 5)", x.letter(21, 5), 256);
        check.fine(x, "letter(28, 5)", x.letter(28, 5), 2);
        check.fine(x, "letter(29, 5)", x.letter(29, 5), 1);
        check.fine(x, "letter(30, 5)", x.letter(30, 5), 1);
        check.fine(x, "letter(31, 5)", x.letter(31, 5), 512);
        watchIs(x, 2, NONE, 4, 2, 0, 1048576 + 2048, 3);
        check.fine(x, "weights(0)", x.weights(0), 0);
        check.fine(x, "weights(1)", x.weights(1), 1048576 + 2048 - 3);
        // The ROOT is IDLE, so what it had is in the POOL; the IDLE EVENT is ahead of the MINTS.
        eventIs(x, 0, 6, 1, 3);
        eventIs(x, 1, 6, 1, 1);
        eventIs(x, 2, 5, 1, 0);
        eventIs(x, 3, 5, 1, 0);
        eventIs(x, 4, 2, 1, 0);
        eventIs(x, 5, 0, 0, 1);
        ledgerIs(x, 0, 1, 40, 2, 42, 42);
        x.tick(100);
        check.fine(x, "watch(2, 1)", x.watch(2, 1), 5);
        check.fine(x, "lag(2)", x.lag(2), 1);
    }

    private static void eventsKept() {
        WorkEnds x = new WorkEnds();
        for (int i = 0; i < 10; i++) {
            x.begin(1);
            x.tick(20);
        }
        // A run without ROWS, the latest first: no TOKEN needs a second round, but the WAVES need two.
        int[][] run = {{4, 5, 3}, {6, 3, 3}, {4, 3, 1}, {3, 1, 0}, {6, 1, 3}, {4, 1, 2}, {6, 1, 1}, {4, 1, 0},
            {2, 1, 0}, {0, 0, 1}};
        for (int i = 0; i < 24; i++) {
            int[] due = run[i % 10];
            int began = 180 - 20 * (i / 10);
            eventIs(x, i, due[0], began + due[1], due[2]);
        }
        check.refused(x, "event(24, 0)", x.event(24, 0), 1);
        check.refused(x, "event(-1, 0)", x.event(-1, 0), 1);
        check.refused(x, "event(0, 3)", x.event(0, 3), 1);
        check.refused(x, "event(0, -1)", x.event(0, -1), 1);
    }

    private static void cuts() {
        WorkEnds x = Texts.of("nodes 3;both 0 1 2;plan 0 1 1 3;plan 0 3 2 4;");
        check.refused(x, "cut(0)", x.cut(0), 7);
        check.refused(x, "cut(3)", x.cut(3), 2);
        check.refused(x, "cut(-1)", x.cut(-1), 2);
        x.begin(4);
        check.refused(x, "cutting(0)", x.cutting(0), 5);
        check.refused(x, "recorded(0, 0)", x.recorded(0, 0), 5);
        x.tick(2);
        // The LETTER to NODE 1 is on its way since TICK 1.
        check.fine(x, "cut(1)", x.cut(1), 1);
        cuttingIs(x, 2, 0, 0, 0, 0, 0, 0, 0, NONE);
        check.fine(x, "recorded(1, 0)", x.recorded(1, 0), 0);
        check.refused(x, "recorded(2, 0)", x.recorded(2, 0), 5);
        check.fine(x, "node(1, 13)", x.node(1, 13), 1);
        check.fine(x, "node(0, 13)", x.node(0, 13), 0);
        x.tick(1);
        // It CROSSES; the one that the ROOT sends now is not RED.
        cuttingIs(x, 2, 0, 0, 0, 0, 1, 3, 0, NONE);
        check.fine(x, "letter(0, 7)", x.letter(0, 7), 0);
        x.tick(2);
        // NODE 1 is IDLE: its ACK, the WEIGHT are RED. The VISITOR, which was sent at TICK 4, comes at TICK 6.
        int reds = 0;
        for (int i = 0; i < x.many(7); i++) {
            reds += x.letter(i, 7);
        }
        check.due("RED LETTERS", reds, 2);
        x.tick(1);
        cuttingIs(x, 2, 0, 0, 0, 0, 1, 3, 0, NONE);
        x.tick(1);
        // The VISITOR is RED too, goes on to NODE 2 in a TICK, as ACK and WEIGHT come to the ROOT: WHOLE.
        // NODE 2 had 4 units since TICK 4 and did 3 by TICK 6.
        cuttingIs(x, 7, 1, 1, 2, 1, 1, 3, 0, 7);
        check.fine(x, "recorded(0, 1)", x.recorded(0, 1), 2);
        check.fine(x, "recorded(2, 0)", x.recorded(2, 0), 1);
        check.fine(x, "recorded(2, 2)", x.recorded(2, 2), 1);
        x.tick(100);
        cuttingIs(x, 7, 1, 1, 2, 1, 1, 3, 0, 7);
        check.refused(x, "whole(0): nothing is sent any more", x.whole(0), 8);
        check.fine(x, "cut(2)", x.cut(2), 2);
        cuttingIs(x, 4, 0, 0, 0, 1, 0, 0, 0, NONE);
        x.tick(300);
        check.fine(x, "cutting(1)", x.cutting(1), 0);
        x.begin(1);
        check.refused(x, "cutting(0) of the work before", x.cutting(0), 5);
        check.fine(x, "node(2, 13)", x.node(2, 13), 0);
        check.fine(x, "cut(0)", x.cut(0), 1);
        check.refused(x, "cutting(9)", x.cutting(9), 1);
        check.refused(x, "cutting(-1)", x.cutting(-1), 1);
        check.refused(x, "recorded(3, 0)", x.recorded(3, 0), 2);
        check.refused(x, "recorded(3, 3)", x.recorded(3, 3), 1);
        check.refused(x, "recorded(0, -1)", x.recorded(0, -1), 1);
        cutThatShows();
        cutThatTakesLong();
    }

    /** NODE 1 has so much to do that a CUT from there takes 2,000 TICKS, and one that begins a TICK sooner too many. */
    private static void cutThatTakesLong() {
        WorkEnds x = new WorkEnds();
        for (int batch = 1; batch <= 3; batch++) {
            for (int i = 0; i < 40; i++) {
                if (batch > 1) {
                    x.drop(0);
                }
                x.plan(0, batch, 1, 20);
            }
            if (batch == 1) {
                x.begin(3);
            }
            x.tick(1);
        }
        // From TICK 2 on NODE 1 does 2,400 units; TRUTH is at 2,401, and its RED SIGNALS come at 2,402.
        x.tick(300);
        check.fine(x, "tick()", x.tick(98), 401);
        check.fine(x, "ends()", x.ends(), 2000);
        check.refused(x, "whole(1) in 2,001 TICKS", x.whole(1), 8);
        x.tick(1);
        check.fine(x, "whole(1)", x.whole(1), 2000);
        check.refused(x, "whole(0)", x.whole(0), 8);
    }

    /** After TRUTH the signals of the watches still go, and carry a CUT that SHOWS the end. */
    private static void cutThatShows() {
        WorkEnds x = small();
        x.tick(4);
        check.fine(x, "many(10)", x.many(10), 4);
        check.fine(x, "whole(0)", x.whole(0), 2);
        check.fine(x, "cut(0)", x.cut(0), 1);
        x.tick(1);
        check.fine(x, "cutting(7)", x.cutting(7), 0);
        x.tick(1);
        cuttingIs(x, 3, 1, 0, 1, 1, 0, 0, 1, 6);
    }

    private static void addsAndSleeps() {
        WorkEnds x = small();
        check.refused(x, "add() while work goes on", x.add(), 6);
        x.tick(3);
        check.refused(x, "add() with SIGNALS on their way", x.add(), 5);
        x.tick(4);
        check.fine(x, "cut(1)", x.cut(1), 1);
        check.fine(x, "add()", x.add(), 2);
        check.fine(x, "many(0)", x.many(0), 3);
        nodeIs(x, 2, 0, 0, 0, 0, NONE, 0, 0, 0, 0, 0, 0, 0, 0, 0);
        cuttingIs(x, 0, 0, 0, 0, 0, 0, 0, 0, NONE);
        check.fine(x, "cut(2)", x.cut(2), 2);
        for (int i = 3; i < 8; i++) {
            check.fine(x, "add()", x.add(), i);
            check.fine(x, "wire(" + i + ", 0)", x.wire(i, 0), 1);
            check.fine(x, "wire(0, " + i + ")", x.wire(0, i), 1);
        }
        check.refused(x, "add() of a ninth", x.add(), 3);
        x.begin(1);
        check.refused(x, "add() of a ninth while work goes on", x.add(), 3);
        check.fine(x, "many(0)", x.many(0), 8);
        // What CROSSED stays with a new NODE: the TOKEN sleeps at NODE 1, so no SIGNAL is on its way.
        x = small();
        x.tick(2);
        x.cut(1);
        x.tick(1);
        cuttingIs(x, 2, 0, 0, 0, 0, 1, 2, 0, NONE);
        x.tick(1);
        x.tick(5);
        check.fine(x, "cutting(1)", x.cutting(1), 1);
        check.fine(x, "add()", x.add(), 2);
        cuttingIs(x, 0, 0, 0, 0, 0, 1, 2, 0, NONE);
        check.refused(x, "recorded(1, 0)", x.recorded(1, 0), 5);
        sleepers();
    }

    private static void sleepers() {
        WorkEnds x = new WorkEnds();
        check.fine(x, "sleep(1, 50)", x.sleep(1, 50), 0);
        x.tick(7);
        check.fine(x, "node(1, 12): no work BEGAN", x.node(1, 12), 50);
        check.fine(x, "sleep(1, 3)", x.sleep(1, 3), 50);
        x.plan(0, 1, 1, 2);
        x.begin(1);
        check.fine(x, "ends()", x.ends(), 5);
        x.tick(2);
        check.fine(x, "node(1, 12)", x.node(1, 12), 1);
        // The LETTERS come to it as ever, but it does nothing.
        nodeIs(x, 1, 2, 0, 0, 1, 0, 1, 0, -1, 1, 524288, 0, 1);
        watchIs(x, 1, NONE, 1, 1, 1, 0, 0);
        x.tick(1);
        check.fine(x, "node(1, 0)", x.node(1, 0), 2);
        check.fine(x, "node(1, 12)", x.node(1, 12), 0);
        x.tick(1);
        check.fine(x, "node(1, 0)", x.node(1, 0), 1);
        check.fine(x, "sleep(0, 50)", x.sleep(0, 50), 0);
        check.fine(x, "ends()", x.ends(), 1);
        check.fine(x, "tells(0)", x.tells(0), 51);
        check.fine(x, "tells(2)", x.tells(2), 51);
        check.fine(x, "sleep(0, 0)", x.sleep(0, 0), 50);
        check.fine(x, "tells(0)", x.tells(0), 2);
        check.refused(x, "sleep(0, 51)", x.sleep(0, 51), 1);
        check.refused(x, "sleep(0, -1)", x.sleep(0, -1), 1);
        check.refused(x, "sleep(2, 51)", x.sleep(2, 51), 1);
        check.refused(x, "sleep(2, 1)", x.sleep(2, 1), 2);
        check.refused(x, "sleep(-1, 1)", x.sleep(-1, 1), 2);
        // A BUSY ROOT that SLEEPS does nothing either.
        x = new WorkEnds();
        x.begin(1);
        x.sleep(0, 2);
        x.tick(2);
        check.fine(x, "node(0, 0)", x.node(0, 0), 1);
        x.tick(1);
        check.fine(x, "node(0, 0)", x.node(0, 0), 0);
    }

    private static void plansThatChange() {
        WorkEnds x = new WorkEnds();
        check.fine(x, "plan()", x.plan(0, 1, 1, 1), 0);
        check.fine(x, "plan()", x.plan(1, 200, 0, 20), 1);
        check.fine(x, "plan()", x.plan(0, 3, 1, 2), 2);
        check.fine(x, "row(1, 1)", x.row(1, 1), 200);
        check.fine(x, "drop(1)", x.drop(1), 2);
        check.fine(x, "row(1, 0)", x.row(1, 0), 0);
        check.fine(x, "row(1, 1)", x.row(1, 1), 3);
        check.fine(x, "row(1, 3)", x.row(1, 3), 2);
        check.refused(x, "row(2, 0)", x.row(2, 0), 5);
        check.refused(x, "row(-1, 0)", x.row(-1, 0), 1);
        check.refused(x, "row(0, 4)", x.row(0, 4), 1);
        check.refused(x, "row(9, 4)", x.row(9, 4), 1);
        check.refused(x, "row(0, -1)", x.row(0, -1), 1);
        check.refused(x, "drop(2)", x.drop(2), 5);
        check.refused(x, "drop(-1)", x.drop(-1), 1);
        x.begin(9);
        x.tick(2);
        check.fine(x, "many(8)", x.many(8), 1);
        // DONE is 2: a ROW for 2 comes too late, one for 4 does not; that for 3 is gone.
        x.plan(0, 2, 1, 7);
        x.plan(0, 4, 1, 9);
        check.fine(x, "drop(1)", x.drop(1), 3);
        x.tick(2);
        check.fine(x, "many(8)", x.many(8), 2);
        check.fine(x, "letter(0, 4)", x.letter(0, 4), 9);
        for (int i = 3; i < 40; i++) {
            check.fine(x, "plan()", x.plan(1, 200, 0, 1), i);
        }
        check.refused(x, "plan() of a 41st", x.plan(0, 1, 1, 1), 3);
        check.refused(x, "plan() of a 41st to itself", x.plan(0, 1, 0, 1), 3);
        check.refused(x, "plan() of a 41st to none", x.plan(0, 1, 2, 1), 2);
        check.fine(x, "many(1)", x.many(1), 40);
        check.fine(x, "drop(39)", x.drop(39), 39);
        check.refused(x, "plan() to itself", x.plan(1, 1, 1, 1), 4);
        check.refused(x, "plan(-1, ..)", x.plan(-1, 1, 1, 1), 2);
        check.refused(x, "plan(.., -1, .)", x.plan(1, 1, -1, 1), 2);
        check.refused(x, "AFTER 0", x.plan(5, 0, 5, 1), 1);
        check.refused(x, "AFTER 201", x.plan(0, 201, 1, 1), 1);
        check.refused(x, "LOAD 0", x.plan(0, 1, 1, 0), 1);
        check.refused(x, "LOAD 21", x.plan(0, 1, 1, 21), 1);
        check.fine(x, "many(1)", x.many(1), 39);
    }

    private static void wiresThatChange() {
        WorkEnds x = new WorkEnds();
        x.plan(0, 1, 1, 1);
        x.plan(0, 2, 1, 1);
        check.fine(x, "wires(0, 1, 9)", x.wires(0, 1, 9), 1);
        x.begin(2);
        x.tick(1);
        check.fine(x, "wires(0, 1, 2)", x.wires(0, 1, 2), 9);
        check.fine(x, "letter(0, 3)", x.letter(0, 3), 9);
        x.tick(1);
        // That which was sent later comes first, but it stands behind the other.
        check.fine(x, "letter(0, 3)", x.letter(0, 3), 8);
        check.fine(x, "letter(1, 3)", x.letter(1, 3), 2);
        x.tick(2);
        check.fine(x, "node(1, 3)", x.node(1, 3), 1);
        ledgerIs(x, 0, 1, 2, 2, 9 + 2 + 2 + 2, 4);
        check.refused(x, "wires(0, 1, 0)", x.wires(0, 1, 0), 1);
        check.refused(x, "wires(0, 1, 10)", x.wires(0, 1, 10), 1);
        check.refused(x, "wires(0, 2, 1)", x.wires(0, 2, 1), 2);
        check.refused(x, "wires(-1, 1, 1)", x.wires(-1, 1, 1), 2);
        check.refused(x, "wires(2, 2, 1)", x.wires(2, 2, 1), 2);
        check.refused(x, "wires(1, 1, 1)", x.wires(1, 1, 1), 4);
        check.refused(x, "wires(1, 1, 0)", x.wires(1, 1, 0), 1);
        check.refused(x, "wire(0, -1)", x.wire(0, -1), 2);
        check.refused(x, "wire(2, 2)", x.wire(2, 2), 2);
        check.refused(x, "wire(1, 1)", x.wire(1, 1), 4);
        check.refused(x, "ledger(0, 1, 4)", x.ledger(0, 1, 4), 1);
        check.refused(x, "ledger(0, 0, 4)", x.ledger(0, 0, 4), 1);
        check.refused(x, "ledger(0, 2, 0)", x.ledger(0, 2, 0), 2);
        check.refused(x, "ledger(0, 0, 0)", x.ledger(0, 0, 0), 4);
        check.fine(x, "wire(0, 1)", x.wire(0, 1), 2);
    }

    private static void marks() {
        WorkEnds x = small();
        check.refused(x, "back()", x.back(), 5);
        check.fine(x, "mark()", x.mark(), 1);
        x.tick(3);
        check.fine(x, "mark()", x.mark(), 2);
        x.wires(1, 0, 9);
        x.plan(0, 1, 1, 1);
        x.sleep(1, 5);
        x.cut(0);
        x.tick(300);
        check.fine(x, "add()", x.add(), 2);
        check.fine(x, "mark()", x.mark(), 3);
        check.refused(x, "mark() of a fourth", x.mark(), 3);
        check.fine(x, "many(11)", x.many(11), 3);
        check.fine(x, "back()", x.back(), 2);
        check.fine(x, "many(0)", x.many(0), 3);
        check.fine(x, "back()", x.back(), 1);
        check.fine(x, "many(11)", x.many(11), 1);
        int[] many = {2, 1, 3, 2, 1, 4, 0, 2, 1, 0, NONE, 1};
        for (int what = 0; what < 12; what++) {
            check.fine(x, "many(" + what + ") after back()", x.many(what), many[what]);
        }
        check.fine(x, "wire(1, 0)", x.wire(1, 0), 1);
        check.fine(x, "node(1, 12)", x.node(1, 12), 0);
        check.refused(x, "cutting(0)", x.cutting(0), 5);
        eventIs(x, 0, 6, 3, 3);
        x.tick(22);
        check.fine(x, "many(2)", x.many(2), 25);
        x.mark();
        x.back();
        // The same as without any MARK.
        x.back();
        check.fine(x, "many(2)", x.many(2), 0);
        x.tick(25);
        smallRunsEnd(x);
    }

    private static void bounds() {
        WorkEnds x = Texts.of("nodes 4;wire 0 3 2;wire 3 2 3;wire 2 1 4;wire 1 0 5;wire 0 1 6;wire 1 2 7;wire 2 3 8;"
            + "wire 3 0 9;wire 0 2 1;wire 2 0 1;");
        check.fine(x, "bound(0)", x.bound(0), 36);
        check.fine(x, "bound(1)", x.bound(1), 3 * (2 + 3 + 4 + 5));
        check.fine(x, "bound(2)", x.bound(2), 9);
        check.fine(x, "bound(3)", x.bound(3), 3 * (6 + 7 + 8 + 9));
        x.wires(3, 0, 1);
        check.fine(x, "bound(2)", x.bound(2), 5);
        check.fine(x, "bound(0)", x.bound(0), 32);
        x.add();
        check.fine(x, "bound(0) of 5 NODES", x.bound(0), 40);
        check.fine(x, "bound(1) of 5 NODES", x.bound(1), 3 * (1 + 1 + 3 + 4 + 5));
        check.refused(x, "bound(4)", x.bound(4), 2);
        check.refused(x, "bound(-1)", x.bound(-1), 2);
    }

    private static void onPaper() {
        WorkEnds x = new WorkEnds();
        x.plan(0, 2, 1, 2);
        x.plan(0, 5, 1, 1);
        x.tick(10);
        check.fine(x, "enough()", x.enough(), 5);
        check.fine(x, "would(3, 0, 0)", x.would(3, 0, 0), 4);
        check.fine(x, "would(3, 0, 1)", x.would(3, 0, 1), 5);
        check.fine(x, "would(3, 3, 1)", x.would(3, 3, 1), 7);
        check.fine(x, "would(3, 3, 2)", x.would(3, 3, 2), 3);
        check.fine(x, "would(3, 3, 3)", x.would(3, 3, 3), 4);
        check.fine(x, "would(200, 2, 0)", x.would(200, 2, 0), 200);
        check.fine(x, "would(200, 2, 2)", x.would(200, 2, 2), 0);
        check.fine(x, "would(200, 2, 3)", x.would(200, 2, 3), 2);
        check.fine(x, "with(3, 0, 1, 0, 5)", x.with(3, 0, 1, 0, 5), 5);
        check.fine(x, "with(3, 1, 0, 1, 9)", x.with(3, 1, 0, 1, 9), 23 - 12);
        check.fine(x, "margin(3, 0)", x.margin(3, 0), 2 - 1);
        check.fine(x, "margin(3, 3)", x.margin(3, 3), 6 - 3);
        check.fine(x, "quickest(3)", x.quickest(3), 0);
        x.wires(1, 0, 9);
        check.fine(x, "quickest(200)", x.quickest(200), 0);
        // All stays as it is.
        check.fine(x, "many(2)", x.many(2), 10);
        check.fine(x, "many(9)", x.many(9), NONE);
        check.fine(x, "wire(0, 1)", x.wire(0, 1), 1);
        check.refused(x, "event(0, 0)", x.event(0, 0), 5);
        x.sleep(1, 50);
        check.fine(x, "margin() with a sleeper", x.margin(1, 1), 30 - (51 + 9 - 1));
        x.sleep(1, 0);
        x.begin(3);
        check.refused(x, "enough()", x.enough(), 6);
        check.refused(x, "would()", x.would(1, 0, 0), 6);
        check.refused(x, "with()", x.with(1, 0, 0, 1, 1), 6);
        check.refused(x, "margin()", x.margin(1, 0), 6);
        check.refused(x, "quickest()", x.quickest(1), 6);
        check.refused(x, "begin()", x.begin(1), 6);
        x.tick(3);
        check.fine(x, "ends()", x.ends(), 1);
        check.fine(x, "whole(1)", x.whole(1), 10);
        check.fine(x, "whole(0)", x.whole(0), 11);
        x.tick(1);
        // TRUTH is, the SIGNALS are still on their way: work does not go on.
        check.fine(x, "ends()", x.ends(), 0);
        check.fine(x, "tells(0)", x.tells(0), 9);
        check.fine(x, "would(3, 0, 1)", x.would(3, 0, 1), 13);
        check.fine(x, "many(7)", x.many(7), 4);
        enoughOnly();
    }

    private static void enoughOnly() {
        WorkEnds x = new WorkEnds();
        check.fine(x, "enough() without ROWS", x.enough(), 1);
        x.plan(1, 200, 0, 1);
        check.fine(x, "enough() for a ROW that is never SENT", x.enough(), 1);
        x.plan(0, 200, 1, 1);
        check.fine(x, "enough() for AFTER 200", x.enough(), 200);
        x.plan(0, 5, 1, 4);
        x.plan(1, 4, 0, 20);
        // 5 units lead to 20 more: of 200 no more than 180 have to be there.
        check.fine(x, "enough() with what comes back", x.enough(), 180);
        check.refused(x, "ends()", x.ends(), 7);
    }

    private static void statusOrder() {
        WorkEnds x = new WorkEnds();
        int most = Integer.MAX_VALUE;
        int least = Integer.MIN_VALUE;
        check.refused(x, "many(-1)", x.many(-1), 1);
        check.refused(x, "node(9, 14)", x.node(9, 14), 1);
        check.refused(x, "node(-1, 0)", x.node(-1, 0), 2);
        check.refused(x, "node(0, -1)", x.node(0, -1), 1);
        check.refused(x, "letter(-1, 0)", x.letter(-1, 0), 1);
        check.refused(x, "letter(0, -1)", x.letter(0, -1), 1);
        check.refused(x, "letter(most, 8)", x.letter(most, 8), 1);
        check.refused(x, "letter(most, 0)", x.letter(most, 0), 5);
        check.refused(x, "row(most, 0)", x.row(most, 0), 5);
        check.refused(x, "drop(most)", x.drop(most), 5);
        check.refused(x, "watch(4, 6)", x.watch(4, 6), 1);
        check.refused(x, "watch(-1, 0)", x.watch(-1, 0), 2);
        check.refused(x, "watch(0, -1)", x.watch(0, -1), 1);
        check.refused(x, "lag(-1)", x.lag(-1), 2);
        check.refused(x, "best(-1)", x.best(-1), 1);
        check.refused(x, "weights(-1)", x.weights(-1), 1);
        check.refused(x, "last(-1)", x.last(-1), 1);
        check.refused(x, "last(4)", x.last(4), 1);
        check.refused(x, "begin(0)", x.begin(0), 1);
        check.refused(x, "begin(201)", x.begin(201), 1);
        check.refused(x, "tick(0)", x.tick(0), 1);
        check.refused(x, "tick(301)", x.tick(301), 1);
        check.refused(x, "tick(least)", x.tick(least), 1);
        check.refused(x, "tells(-1)", x.tells(-1), 2);
        check.refused(x, "tells(0)", x.tells(0), 7);
        check.refused(x, "whole(-1)", x.whole(-1), 2);
        check.refused(x, "whole(0)", x.whole(0), 7);
        check.refused(x, "would(1, 4, 4)", x.would(1, 4, 4), 1);
        check.refused(x, "would(201, 4, 0)", x.would(201, 4, 0), 1);
        check.refused(x, "would(1, -1, 0)", x.would(1, -1, 0), 2);
        check.refused(x, "would(1, 0, -1)", x.would(1, 0, -1), 1);
        check.refused(x, "with(0, 9, 9, 9, 1)", x.with(0, 9, 9, 9, 1), 1);
        check.refused(x, "with(201, 9, 9, 9, 1)", x.with(201, 9, 9, 9, 1), 1);
        check.refused(x, "with(1, 9, 9, 9, 0)", x.with(1, 9, 9, 9, 0), 1);
        check.refused(x, "with(1, 9, 9, 9, 10)", x.with(1, 9, 9, 9, 10), 1);
        check.refused(x, "with(1, 4, 0, 0, 1)", x.with(1, 4, 0, 0, 1), 2);
        check.refused(x, "with(1, 0, 2, 2, 1)", x.with(1, 0, 2, 2, 1), 2);
        check.refused(x, "with(1, 0, 0, -1, 1)", x.with(1, 0, 0, -1, 1), 2);
        check.refused(x, "with(1, 0, 1, 1, 1)", x.with(1, 0, 1, 1, 1), 4);
        check.refused(x, "margin(201, 4)", x.margin(201, 4), 1);
        check.refused(x, "margin(1, -1)", x.margin(1, -1), 2);
        check.refused(x, "quickest(201)", x.quickest(201), 1);
        check.refused(x, "quickest(0)", x.quickest(0), 1);
        check.fine(x, "tick(300)", x.tick(300), 300);
        check.fine(x, "begin(200)", x.begin(200), 300);
        check.refused(x, "begin(0) while work goes on", x.begin(0), 1);
        check.refused(x, "with(1, 0, 1, 1, 1) while work goes on", x.with(1, 0, 1, 1, 1), 4);
        check.refused(x, "would(1, 4, 0) while work goes on", x.would(1, 4, 0), 2);
        check.refused(x, "margin(0, 0) while work goes on", x.margin(0, 0), 1);
        check.due("NONE", WorkEnds.NONE, -1);
    }
}
