/**
 * One long run in which much meets, gone through by hand, TICK by TICK, from the document's words: a TEXT, work that goes
 * on, a WIRE, ROWS and NODES that change while it does, sleepers, CUTS, MARKS, and what is said ON PAPER from there.
 */
public final class StoryTest {
    private static final Check check = new Check();
    private static final int NONE = WorkEnds.NONE;
    private static final int FIRST = 1048576;

    public static void main(String[] args) {
        upToTheMark();
        asItWasPlanned();
        withOtherPlans();
        fromPaperToWork();
        check.end();
    }

    private static void is(WorkEnds x, String call, int got, int due) {
        check.fine(x, call, got, due);
    }

    private static void many(WorkEnds x, int... due) {
        for (int what = 0; what < due.length; what++) {
            is(x, "many(" + what + ") at " + x.many(2), x.many(what), due[what]);
        }
    }

    private static void node(WorkEnds x, int node, int... due) {
        for (int what = 0; what < due.length; what++) {
            is(x, "node(" + node + ", " + what + ") at " + x.many(2), x.node(node, what), due[what]);
        }
    }

    private static void watch(WorkEnds x, int watch, int... due) {
        for (int what = 0; what < due.length; what++) {
            is(x, "watch(" + watch + ", " + what + ") at " + x.many(2), x.watch(watch, what), due[what]);
        }
    }

    private static void letter(WorkEnds x, int i, int... due) {
        for (int what = 0; what < due.length; what++) {
            is(x, "letter(" + i + ", " + what + ") at " + x.many(2), x.letter(i, what), due[what]);
        }
    }

    private static void ledger(WorkEnds x, int from, int to, int... due) {
        for (int what = 0; what < due.length; what++) {
            is(x, "ledger(" + from + ", " + to + ", " + what + ")", x.ledger(from, to, what), due[what]);
        }
    }

    private static void cutting(WorkEnds x, int... due) {
        for (int what = 0; what < due.length; what++) {
            is(x, "cutting(" + what + ") at " + x.many(2), x.cutting(what), due[what]);
        }
    }

    private static void recorded(WorkEnds x, int node, int... due) {
        for (int what = 0; what < due.length; what++) {
            is(x, "recorded(" + node + ", " + what + ")", x.recorded(node, what), due[what]);
        }
    }

    private static void last(WorkEnds x, int... due) {
        for (int what = 0; what < due.length; what++) {
            is(x, "last(" + what + ")", x.last(what), due[what]);
        }
    }

    private static void bounds(WorkEnds x, int... due) {
        for (int watch = 0; watch < 4; watch++) {
            is(x, "bound(" + watch + ")", x.bound(watch), due[watch]);
        }
    }

    /** From TICK to TICK: in how many ends() and tells() say it comes, less one by each that goes by. */
    private static void paper(WorkEnds x, int ends, int... tells) {
        is(x, "ends() at " + x.many(2), x.ends(), ends);
        for (int watch = 0; watch < 4; watch++) {
            is(x, "tells(" + watch + ") at " + x.many(2), x.tells(watch), tells[watch]);
        }
    }

    /** The latest EVENTS, the latest first, each as its kind, TICK and number. */
    private static void latest(WorkEnds x, int... due) {
        for (int i = 0; i < due.length; i++) {
            is(x, "event(" + i / 3 + ", " + i % 3 + ")", x.event(i / 3, i % 3), due[i]);
        }
    }

    /** So, and no EVENT is behind them. */
    private static void events(WorkEnds x, int... due) {
        latest(x, due);
        check.refused(x, "event() behind them", x.event(due.length / 3, 0), 5);
    }

    /** TICK 4: NODE 1 has worked off its LOAD of 2, NODE 2, which slept for two TICKS, has one unit. */
    private static WorkEnds atFour() {
        WorkEnds x = new WorkEnds();
        is(x, "load()", Texts.load(x, "nodes 3; both 0 1 2; wire 1 2 3;\n"
            + "plan 0 1 1 2; plan 1 1 2 1; plan 1 2 0 1; plan 2 1 1 1;"), 3);
        is(x, "begin(2)", x.begin(2), 0);
        is(x, "tick(2)", x.tick(2), 2);
        is(x, "cut(1)", x.cut(1), 1);
        is(x, "sleep(2, 2)", x.sleep(2, 2), 0);
        is(x, "wires(1, 2, 1)", x.wires(1, 2, 1), 3);
        is(x, "tick(2)", x.tick(2), 4);
        return x;
    }

    private static void seeFour(WorkEnds x) {
        many(x, 3, 4, 4, 4, 1, 4, 1, 2, 3, 0, NONE);
        node(x, 0, 0, 2, 1, 0, NONE, 1, 1, 1, 0, 0, 2, 0, 0, 0);
        node(x, 1, 0, 2, 2, 1, 0, 1, 2, 1, 1, 0, 4, 1, 0, 1);
        node(x, 2, 1, 0, 0, 1, 1, 1, 0, -1, 1, 262144, 0, 2, 0, 1);
        letter(x, 0, 0, 1, 0, 2, 1, 131072, 2, 1);
        letter(x, 1, 3, 1, 0, 2, 0, 131072, 0, 1);
        letter(x, 2, 4, 1, 2, 1, 0, 0, 0, 1);
        check.refused(x, "letter(3, 0)", x.letter(3, 0), 5);
        watch(x, 0, NONE, 0, 3, 0, 3, 2);
        watch(x, 1, NONE, 1, 1, 2, 0, 0);
        watch(x, 2, NONE, 1, 0, 0, FIRST, 524288);
        watch(x, 3, NONE, 2, 1, NONE, 3, 1);
        cutting(x, 6, 0, 0, 0, 0, 1, 2, 0, NONE);
    }

    private static void upToTheMark() {
        WorkEnds x = atFour();
        seeFour(x);
        ledger(x, 0, 1, 1, 1, 4, 2);
        ledger(x, 0, 2, 0, 1, 1, 1);
        ledger(x, 1, 0, 1, 1, 4, 2);
        ledger(x, 1, 2, 1, 1, 2, 1);
        ledger(x, 2, 0, 0, 0, 0, 0);
        ledger(x, 2, 1, 0, 0, 0, 0);
        events(x, 2, 4, 1, 1, 4, 2, 1, 3, 1, 6, 2, 3, 6, 2, 1, 2, 2, 0, 0, 0, 2);
        bounds(x, 6, 12, 2, 12);
        check.refused(x, "recorded(0, 0)", x.recorded(0, 0), 5);
        check.refused(x, "begin(1) while work goes on", x.begin(1), 6);
        check.refused(x, "would(1, 0, 0) while work goes on", x.would(1, 0, 0), 6);
        check.refused(x, "enough() while work goes on", x.enough(), 6);
        check.refused(x, "add() with SIGNALS on their way", x.add(), 5);
        check.refused(x, "last(0) ahead of TRUTH", x.last(0), 5);
        check.refused(x, "lag(0)", x.lag(0), 5);
        check.refused(x, "best(0)", x.best(0), 5);
    }

    private static void asItWasPlanned() {
        WorkEnds x = atFour();
        is(x, "mark()", x.mark(), 1);
        paper(x, 2, 6, 8, 4, 10);
        is(x, "whole(0)", x.whole(0), 5);
        is(x, "whole(1)", x.whole(1), 4);
        is(x, "whole(2)", x.whole(2), 2);
        seeFour(x);
        is(x, "tick(2)", x.tick(2), 6);
        many(x, 3, 4, 6, 0, 0, 7, 0, 5, 4, 0, 6, 1);
        cutting(x, 7, 1, 0, 1, 0, 1, 2, 0, 6);
        recorded(x, 0, 0, 1, 0);
        last(x, 3, 2, 1, 6);
        letter(x, 0, 1, 0, 1, 2, 0, 0, 0, 1);
        letter(x, 1, 1, 1, 2, 1, 0, 0, 0, 1);
        letter(x, 2, 4, 0, 1, 2, 0, 0, 0, 1);
        letter(x, 3, 2, 1, 0, 2, 0, 0, 0, 1);
        letter(x, 4, 3, 1, 0, 2, 0, 131072, 0, 1);
        watch(x, 1, NONE, 3, 1, NONE, 0, 1);
        watch(x, 2, NONE, 3, 0, 0, FIRST, 917504);
        watch(x, 3, NONE, 4, 2, NONE, 1, 1);
        paper(x, 0, 4, 6, 2, 8);
        is(x, "tick(8)", x.tick(8), 14);
        watch(x, 0, 10, 4, 3, 0, 0, 0);
        watch(x, 1, 12, 6, 2, 0, 0, 0);
        watch(x, 2, 8, 3, 0, 0, FIRST, FIRST);
        watch(x, 3, 14, 9, 3, 0, 4, 4);
        is(x, "best(0)", x.best(0), 2);
        is(x, "best(1)", x.best(1), 2);
        ledger(x, 1, 0, 1, 5, 12, 2);
        ledger(x, 1, 2, 1, 4, 5, 1);
        events(x, 4, 14, 3, 4, 12, 1, 6, 10, 3, 4, 10, 0, 4, 8, 2, 6, 8, 1, 3, 6, 4, 6, 6, 3, 2, 6, 1, 2, 6, 0,
            1, 6, 1, 1, 6, 0, 2, 5, 2, 2, 4, 1, 1, 4, 2, 1, 3, 1, 6, 2, 3, 6, 2, 1, 2, 2, 0, 0, 0, 2);
        is(x, "back()", x.back(), 0);
        seeFour(x);
    }

    /** What is done at TICK 4: a ROW goes, three come (one too late), a WIRE takes longer, the ROOT sleeps. */
    private static void change(WorkEnds x) {
        is(x, "drop(3)", x.drop(3), 3);
        is(x, "plan(2, 1, 0, 3)", x.plan(2, 1, 0, 3), 3);
        is(x, "plan(1, 2, 0, 9)", x.plan(1, 2, 0, 9), 4);
        is(x, "plan(0, 3, 2, 1)", x.plan(0, 3, 2, 1), 5);
        is(x, "wires(2, 0, 4)", x.wires(2, 0, 4), 1);
        is(x, "sleep(0, 3)", x.sleep(0, 3), 0);
    }

    private static void withOtherPlans() {
        WorkEnds x = atFour();
        x.mark();
        x.mark();
        x.tick(30);
        is(x, "back()", x.back(), 1);
        change(x);
        paper(x, 7, 9, 12, 9, 21);
        is(x, "tick(4)", x.tick(4), 8);
        cutting(x, 7, 1, 0, 1, 0, 1, 2, 0, 6);
        node(x, 0, 0, 3, 2, 1, NONE, 1, 2, 1, 0, 0, 2, 2, 0, 1);
        watch(x, 1, NONE, 4, 2, NONE, 0, 0);
        watch(x, 2, NONE, 2, 0, 0, FIRST, 720896);
        is(x, "tick(3)", x.tick(3), 11);
        many(x, 3, 6, 11, 0, 0, 10, 0, 5, 5, 0, 11, 1);
        last(x, 3, 2, 0, 9);
        watch(x, 1, NONE, 6, 2, NONE, 0, 1);
        watch(x, 3, NONE, 4, 2, NONE, 2, 2);
        is(x, "tick(14)", x.tick(14), 25);
        watch(x, 0, 13, 5, 3, 0, 0, 0);
        watch(x, 1, 16, 9, 3, 0, 0, 0);
        watch(x, 2, 13, 3, 0, 0, FIRST, FIRST);
        watch(x, 3, 25, 9, 3, 0, 5, 5);
        is(x, "best(0)", x.best(0), 0);
        is(x, "best(1)", x.best(1), 2);
        is(x, "lag(3)", x.lag(3), 14);
        bounds(x, 12, 12, 4, 21);
        events(x, 4, 25, 3, 6, 18, 3, 4, 16, 1, 4, 13, 2, 4, 13, 0, 6, 12, 1, 3, 11, 5, 6, 11, 3, 2, 11, 0, 2, 9, 2,
            1, 9, 2, 1, 9, 0, 6, 8, 1, 2, 8, 0, 1, 6, 0, 2, 5, 2, 2, 4, 1, 1, 4, 2, 1, 3, 1, 6, 2, 3, 6, 2, 1, 2, 2, 0,
            0, 0, 2);
        oneMoreNode(x);
        is(x, "load()", Texts.load(x, "nodes 2;"), 2);
        many(x, 2, 0, 0, 0, 0, 0, 0, 0, 0, NONE, NONE, 1);
        is(x, "back()", x.back(), 0);
        seeFour(x);
    }

    /** All is still at TICK 25: a NODE more, a CUT that never becomes WHOLE, and work BEGINS once more. */
    private static void oneMoreNode(WorkEnds x) {
        is(x, "add()", x.add(), 3);
        cutting(x, 0, 0, 0, 0, 0, 1, 2, 0, NONE);
        check.refused(x, "recorded(1, 0) as nobody is RED", x.recorded(1, 0), 5);
        bounds(x, 16, 15, 4, 15);
        check.refused(x, "whole(3): nothing goes any more", x.whole(3), 8);
        is(x, "cut(3)", x.cut(3), 2);
        cutting(x, 8, 0, 0, 0, 0, 0, 0, 0, NONE);
        is(x, "plan(2, 1, 3, 1)", x.plan(2, 1, 3, 1), 6);
        is(x, "enough()", x.enough(), 1);
        is(x, "begin(1)", x.begin(1), 25);
        check.refused(x, "cutting(0) as work BEGINS", x.cutting(0), 5);
        check.refused(x, "last(0) as work BEGINS", x.last(0), 5);
        latest(x, 0, 25, 1, 4, 25, 3, 6, 18, 3, 4, 16, 1);
        ledger(x, 1, 0, 0, 0, 0, 0);
        many(x, 4, 7, 25, 1, 1, 0, 0, 0, 0, 25, NONE, 1);
    }

    /** From TICK 25 on: what would(), with(), margin() and quickest() say of a new work is what comes then. */
    private static void fromPaperToWork() {
        for (int watch = 0; watch < 4; watch++) {
            WorkEnds x = atFour();
            change(x);
            x.tick(21);
            x.add();
            x.plan(2, 1, 3, 1);
            x.sleep(3, 11);
            int truth = x.would(1, watch, 0);
            int told = x.would(1, watch, 1);
            int signals = x.would(1, watch, 3);
            is(x, "would(1, " + watch + ", 2)", x.would(1, watch, 2), told - truth);
            is(x, "margin(1, " + watch + ")", x.margin(1, watch), x.bound(watch) - told + truth);
            is(x, "with() the WIRE as it is", x.with(1, watch, 2, 0, 4), told - truth);
            int other = x.with(1, watch, 2, 0, 1);
            int quickest = x.quickest(1);
            many(x, 4, 7, 25, 0, 0, 10, 0, 0, 5, 0, 11, 0);
            x.mark();
            x.begin(1);
            is(x, "ends()", x.ends(), truth);
            is(x, "tells(" + watch + ")", x.tells(watch), told);
            x.tick(told);
            is(x, "TOLD", x.watch(watch, 0), 25 + told);
            is(x, "lag(" + watch + ")", x.lag(watch), told - truth);
            is(x, "SIGNALS", x.watch(watch, 1), signals);
            x.tick(60);
            is(x, "best(0)", x.best(0), quickest);
            x.back();
            is(x, "wires(2, 0, 1)", x.wires(2, 0, 1), 4);
            x.begin(1);
            x.tick(90);
            is(x, "lag(" + watch + ") with a WIRE of 1", x.lag(watch), other);
        }
    }
}
