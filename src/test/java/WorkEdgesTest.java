/** What sections 2 and 4 say of bounds (work, TICKS, sleepers, EVENTS, MARKS), sentence by sentence. */
public final class WorkEdgesTest {
    private static final Check check = new Check();
    private static final int NONE = WorkEnds.NONE;

    public static void main(String[] args) {
        idleAtZero();
        asWorkBegins();
        workBeginsAsOnANewObject();
        ticksFromOneOn();
        lettersComeAsTheyWereSent();
        aLaterLetterMayComeFirst();
        sentAsAfterIsDone();
        donePlansAreNotSent();
        rowsInOrderNodesByNumbers();
        watchesInOrderNodesByNumbers();
        truthNeedsAllIdle();
        truthNeedsNoLetter();
        truthOnce();
        aheadOfAnyWork();
        sleepsSoManyTicks();
        sleeperDoesNothingForWatches();
        lettersComeToASleeper();
        sleepAndBegin();
        moreWorkForWhoIsBusy();
        chains();
        lastLetterOfSeveral();
        lastLetterIsTheWaking();
        noLastLetter();
        latest24Events();
        kindsOfEvents();
        atMostThreeMarks();
        backTakesAllBack();
        check.end();
    }

    /** Two NODES; the ROOT has 3 units, and sends 2 to NODE 1 as it has done 2. */
    private static WorkEnds small() {
        WorkEnds x = new WorkEnds();
        x.plan(0, 2, 1, 2);
        x.begin(3);
        return x;
    }

    private static void nodeIs(WorkEnds x, int node, int... due) {
        for (int what = 0; what < due.length; what++) {
            check.fine(x, "node(" + node + ", " + what + ")", x.node(node, what), due[what]);
        }
    }

    private static void letterIs(WorkEnds x, int i, int kind, int from, int to) {
        check.fine(x, "letter(" + i + ", 0)", x.letter(i, 0), kind);
        check.fine(x, "letter(" + i + ", 1)", x.letter(i, 1), from);
        check.fine(x, "letter(" + i + ", 2)", x.letter(i, 2), to);
    }

    private static void eventIs(WorkEnds x, int i, int kind, int tick, int number) {
        check.fine(x, "event(" + i + ", 0)", x.event(i, 0), kind);
        check.fine(x, "event(" + i + ", 1)", x.event(i, 1), tick);
        check.fine(x, "event(" + i + ", 2)", x.event(i, 2), number);
    }

    private static void same(WorkEnds x, WorkEnds y, int part, String when) {
        var got = Looks.part(x, part);
        var want = Looks.part(y, part);
        check.due("how much is seen: " + when, got.size(), want.size());
        for (int i = 0; i < Math.min(got.size(), want.size()); i++) {
            check.holds(got.get(i) + ", due is " + want.get(i) + ": " + when, got.get(i).equals(want.get(i)));
        }
    }

    // "WORK (units; 0: it is IDLE, else BUSY)"
    private static void idleAtZero() {
        WorkEnds x = new WorkEnds();
        check.fine(x, "BUSY at first", x.many(3), 0);
        x.begin(2);
        check.fine(x, "BUSY with 2", x.many(3), 1);
        x.tick(1);
        check.fine(x, "BUSY with 1", x.many(3), 1);
        check.fine(x, "WORK", x.many(4), 1);
        x.tick(1);
        check.fine(x, "IDLE with 0", x.many(3), 0);
        check.fine(x, "DONE", x.many(5), 2);
        x.tick(1);
        check.fine(x, "DONE by who is IDLE", x.many(5), 2);
        check.fine(x, "WORK of who is IDLE", x.node(0, 0), 0);
    }

    // "As work BEGINS: .."
    private static void asWorkBegins() {
        WorkEnds x = small();
        x.tick(4);
        check.fine(x, "SIGNALS on their way", x.many(7), 4);
        x.cut(0);
        check.fine(x, "begin(8)", x.begin(8), 4);
        int[] many = {2, 1, 4, 1, 8, 0, 0, 0, 0, 4, NONE, 0};
        for (int what = 0; what < many.length; what++) {
            check.fine(x, "many(" + what + ")", x.many(what), many[what]);
        }
        nodeIs(x, 0, 8, 0, 0, 0, NONE, 1, 0, 0, 0, 1048576, 0, 0, 0, 0);
        nodeIs(x, 1, 0, 0, 0, 0, NONE, 0, 0, 0, 0, 0, 0, 0, 0, 0);
        check.refused(x, "letter(0, 0)", x.letter(0, 0), 5);
        int[][] watches = {{NONE, 0, 0, 0, 0, 0}, {NONE, 0, 0, 0, 0, 0}, {NONE, 0, 0, 0, 1048576, 0},
            {NONE, 0, 0, 0, 0, 0}};
        int[] weights = {1048576, 0, 0, 1048576};
        for (int w = 0; w < 4; w++) {
            for (int what = 0; what < 6; what++) {
                check.fine(x, "watch(" + w + ", " + what + ")", x.watch(w, what), watches[w][what]);
            }
            check.refused(x, "lag(" + w + ")", x.lag(w), 5);
            check.fine(x, "weights(" + w + ")", x.weights(w), weights[w]);
            check.fine(x, "ledger(0, 1, " + w + ")", x.ledger(0, 1, w), 0);
            check.fine(x, "ledger(1, 0, " + w + ")", x.ledger(1, 0, w), 0);
        }
        check.refused(x, "best(0)", x.best(0), 5);
        check.refused(x, "last(0)", x.last(0), 5);
        check.refused(x, "cutting(0)", x.cutting(0), 5);
        check.refused(x, "recorded(0, 0)", x.recorded(0, 0), 5);
        eventIs(x, 0, 0, 4, 8);
        eventIs(x, 1, 3, 4, 1);
    }

    /** Nothing of the work before is left in what comes: but for the TICK and the EVENTS it is a new object's. */
    private static void workBeginsAsOnANewObject() {
        String text = "nodes 4;both 0 1 2;wire 2 3 4;plan 0 1 1 2;plan 1 2 2 3;plan 2 1 3 2;plan 3 1 0 4;plan 0 3 2 1;";
        for (int busy = 1; busy < 30; busy++) {
            for (int part = 0; part < 4; part++) {
                WorkEnds x = Texts.of(text);
                x.begin(7);
                x.tick(busy);
                x.cut(busy % 4);
                x.tick(20);
                x.sleep(2, 6);
                WorkEnds y = Texts.of(text);
                y.tick(20 + busy);
                y.sleep(2, 6);
                check.due("begin(3)", x.begin(3), y.begin(3));
                x.tick(busy);
                y.tick(busy);
                same(x, y, part, "work anew for " + busy + " TICKS");
            }
        }
    }

    // "A TICK (numbered from 1 on)", "the TICK goes on"
    private static void ticksFromOneOn() {
        WorkEnds x = new WorkEnds();
        check.fine(x, "many(2)", x.many(2), 0);
        check.fine(x, "begin(1)", x.begin(1), 0);
        check.fine(x, "tick(1)", x.tick(1), 1);
        check.fine(x, "TRUTH", x.many(10), 1);
        eventIs(x, 0, 3, 1, 0);
        check.fine(x, "begin(1)", x.begin(1), 1);
        check.fine(x, "tick(1)", x.tick(1), 2);
        check.fine(x, "TRUTH", x.many(10), 2);
    }

    // "come, in the order in which they were sent"
    private static void lettersComeAsTheyWereSent() {
        // By a WIRE of 5 from the ROOT, sent at TICK 1; by a WIRE of 1 from NODE 1, sent at TICK 5.
        WorkEnds x = Texts.of("nodes 3;wire 0 2 5;plan 0 1 2 1;plan 0 1 1 4;plan 1 4 2 1;");
        x.begin(1);
        x.tick(5);
        check.fine(x, "GOT", x.node(2, 3), 0);
        x.tick(1);
        nodeIs(x, 2, 1, 1, 0, 2, 0, 1, 0, -2, 1, 524288 + 131072, 0, 1);
        letterIs(x, 0, 1, 2, 1);
        eventIs(x, 0, 1, 6, 2);
    }

    // "that have been on their way for as many TICKS as their WIRE had as they were sent"
    private static void aLaterLetterMayComeFirst() {
        WorkEnds x = Texts.of("nodes 3;wire 0 2 6;plan 0 1 2 1;plan 0 1 1 4;plan 1 4 2 3;");
        x.begin(1);
        x.tick(6);
        nodeIs(x, 2, 2, 1, 0, 1, 1, 1, 0, -1, 1, 131072, 0, 2);
        x.tick(1);
        nodeIs(x, 2, 2, 2, 0, 2, 1, 1, 0, -2, 1, 131072 + 524288, 0, 2);
        letterIs(x, 0, 1, 2, 0);
        // A WIRE that is another one now changes nothing for what is on its way.
        x = Texts.of("nodes 2;wire 0 1 4;plan 0 1 1 5;");
        x.begin(9);
        x.tick(1);
        check.fine(x, "wires(0, 1, 1)", x.wires(0, 1, 1), 4);
        x.tick(1);
        check.fine(x, "letter(0, 3)", x.letter(0, 3), 3);
        check.fine(x, "wires(0, 1, 9)", x.wires(0, 1, 9), 1);
        x.tick(2);
        check.fine(x, "GOT", x.node(1, 3), 0);
        x.tick(1);
        check.fine(x, "GOT", x.node(1, 3), 1);
    }

    // "for each ROW of it .. whose AFTER is DONE now, a WORK LETTER of that LOAD is SENT"
    private static void sentAsAfterIsDone() {
        for (int after = 1; after <= 5; after++) {
            WorkEnds x = new WorkEnds();
            x.plan(0, after, 1, 3);
            x.plan(1, 100, 0, 3);
            x.begin(6);
            for (int done = 1; done <= 6; done++) {
                x.tick(1);
                check.fine(x, "SENT as " + done + " are DONE", x.many(8), done >= after ? 1 : 0);
                if (done == after) {
                    check.fine(x, "its LOAD", x.letter(0, 4), 3);
                }
            }
            x.tick(100);
            check.fine(x, "SENT at the end", x.many(8), 1);
            check.fine(x, "DONE at the end", x.many(5), 9);
            x.begin(6);
            x.tick(100);
            check.fine(x, "SENT by new work", x.many(8), 1);
        }
        // One that is not done so far by the last unit is not SENT.
        WorkEnds x = new WorkEnds();
        x.plan(0, 7, 1, 3);
        x.begin(6);
        x.tick(100);
        check.fine(x, "SENT", x.many(8), 0);
        // DONE is since work BEGAN.
        x.begin(1);
        x.tick(100);
        check.fine(x, "SENT", x.many(8), 0);
    }

    // "A ROW whose AFTER its NODE has DONE already is not SENT for it."
    private static void donePlansAreNotSent() {
        for (int after = 1; after <= 6; after++) {
            WorkEnds x = new WorkEnds();
            x.begin(6);
            x.tick(3);
            check.fine(x, "plan()", x.plan(0, after, 1, 1), 0);
            x.tick(30);
            check.fine(x, "SENT for AFTER " + after, x.many(8), after > 3 ? 1 : 0);
            // One that goes in time is not SENT either.
            x.begin(6);
            x.tick(after - 1 > 0 ? after - 1 : 1);
            int sent = x.many(8);
            x.drop(0);
            x.tick(30);
            check.fine(x, "SENT by a ROW that is gone", x.many(8), sent);
        }
    }

    // "b) Each NODE that is BUSY, by numbers ..; for each ROW of it, in order"
    private static void rowsInOrderNodesByNumbers() {
        WorkEnds x = Texts.of("nodes 2;plan 1 1 0 1;plan 0 1 1 2;plan 0 2 1 7;plan 1 1 0 3;plan 0 2 1 8;");
        x.begin(2);
        x.tick(2);
        int[] from = {0, 0, 1, 1};
        int[] load = {7, 8, 1, 3};
        for (int i = 0; i < 4; i++) {
            letterIs(x, i, 0, from[i], 1 - from[i]);
            check.fine(x, "letter(" + i + ", 4)", x.letter(i, 4), load[i]);
        }
        // The IDLE ROOT's go behind them.
        letterIs(x, 4, 2, 0, 1);
        letterIs(x, 5, 4, 0, 1);
        // As they came, not by LOAD or by when they came into the plan for the first time.
        x = new WorkEnds();
        x.plan(0, 1, 1, 4);
        x.plan(0, 1, 1, 5);
        x.drop(0);
        x.plan(0, 1, 1, 4);
        x.begin(1);
        x.tick(1);
        check.fine(x, "letter(0, 4)", x.letter(0, 4), 5);
        check.fine(x, "letter(0, 5)", x.letter(0, 5), 524288);
        check.fine(x, "letter(1, 4)", x.letter(1, 4), 4);
        check.fine(x, "letter(1, 5)", x.letter(1, 5), 262144);
    }

    // "c) Each NODE that is IDLE, by numbers, does for the watches, 0 ahead of 1 and so on, what they ask"
    private static void watchesInOrderNodesByNumbers() {
        WorkEnds x = Texts.of("nodes 3;plan 0 1 1 1;plan 0 1 2 1;");
        x.begin(1);
        x.tick(2);
        int[] kinds = {1, 3, 4, 1, 2, 3};
        int[] tos = {0, 0, 2, 0, 1, 0};
        for (int i = 0; i < 6; i++) {
            letterIs(x, i, kinds[i], i < 3 ? 1 : 2, tos[i]);
        }
        x = small();
        x.tick(4);
        for (int i = 0; i < 4; i++) {
            letterIs(x, i, i + 1, 1, 0);
        }
        // At the ROOT: as its EVENTS say. TRUTH, d), is behind them.
        x = new WorkEnds();
        x.begin(1);
        x.tick(1);
        int[][] due = {{3, 0}, {6, 3}, {4, 2}, {6, 1}, {4, 0}, {2, 0}, {0, 1}};
        for (int i = 0; i < due.length; i++) {
            eventIs(x, i, due[i][0], i == 6 ? 0 : 1, due[i][1]);
        }
        check.refused(x, "event(7, 0)", x.event(7, 0), 5);
    }

    // "d) If all are IDLE"
    private static void truthNeedsAllIdle() {
        WorkEnds x = new WorkEnds();
        x.plan(0, 1, 1, 3);
        x.begin(1);
        for (int t = 1; t < 4; t++) {
            x.tick(1);
            check.fine(x, "TRUTH at " + t, x.many(10), NONE);
            check.fine(x, "ends() at " + t, x.ends(), 4 - t);
        }
        x.tick(1);
        check.fine(x, "TRUTH", x.many(10), 4);
        check.fine(x, "ends()", x.ends(), 0);
        eventIs(x, 0, 3, 4, 1);
    }

    // "and no WORK LETTER is on its way" (SIGNALS may be)
    private static void truthNeedsNoLetter() {
        WorkEnds x = new WorkEnds();
        x.plan(0, 1, 1, 1);
        x.wires(0, 1, 9);
        x.wires(1, 0, 9);
        x.begin(1);
        x.tick(9);
        check.fine(x, "BUSY", x.many(3), 0);
        check.fine(x, "WORK LETTERS", x.many(6), 1);
        check.fine(x, "TRUTH", x.many(10), NONE);
        check.refused(x, "begin(1)", x.begin(1), 6);
        x.tick(1);
        check.fine(x, "WORK LETTERS", x.many(6), 0);
        check.holds("SIGNALS", x.many(7) > 0);
        check.fine(x, "TRUTH", x.many(10), 10);
        check.fine(x, "begin(1)", x.begin(1), 10);
    }

    // "and TRUTH is none, TRUTH is this TICK"
    private static void truthOnce() {
        WorkEnds x = small();
        x.tick(300);
        check.fine(x, "TRUTH", x.many(10), 4);
        int truths = 0;
        for (int i = 0; i < 13; i++) {
            truths += x.event(i, 0) == 3 ? 1 : 0;
        }
        check.due("EVENTS of TRUTH", truths, 1);
        check.refused(x, "event(13, 0)", x.event(13, 0), 5);
    }

    // "Before any work BEGAN a TICK goes by and nothing else."
    private static void aheadOfAnyWork() {
        for (int part = 1; part < Looks.PARTS; part++) {
            WorkEnds x = Texts.of("nodes 3;plan 0 1 1 1;wire 0 1 3;");
            WorkEnds y = Texts.of("nodes 3;plan 0 1 1 1;wire 0 1 3;");
            check.fine(x, "tick(300)", x.tick(300), 300);
            same(x, y, part, "300 TICKS without work");
        }
        WorkEnds x = new WorkEnds();
        x.sleep(0, 50);
        x.sleep(1, 1);
        x.tick(300);
        nodeIs(x, 0, 0, 0, 0, 0, NONE, 0, 0, 0, 0, 0, 0, 0, 50, 0);
        nodeIs(x, 1, 0, 0, 0, 0, NONE, 0, 0, 0, 0, 0, 0, 0, 1, 0);
        int[] many = {2, 0, 300, 0, 0, 0, 0, 0, 0, NONE, NONE, 0};
        for (int what = 0; what < many.length; what++) {
            check.fine(x, "many(" + what + ")", x.many(what), many[what]);
        }
        for (int w = 0; w < 4; w++) {
            for (int what = 0; what < 6; what++) {
                check.fine(x, "watch(" + w + ", " + what + ")", x.watch(w, what), what == 0 ? NONE : 0);
            }
        }
        check.refused(x, "event(0, 0)", x.event(0, 0), 5);
        check.refused(x, "letter(0, 0)", x.letter(0, 0), 5);
    }

    // "A NODE SLEEPS for so many TICKS (0 to 50) from now on", "does nothing in b)", "e) .. for one TICK less"
    private static void sleepsSoManyTicks() {
        for (int ticks : new int[] {0, 1, 2, 3, 49, 50}) {
            WorkEnds x = new WorkEnds();
            x.begin(2);
            check.fine(x, "sleep(0, " + ticks + ")", x.sleep(0, ticks), 0);
            for (int t = 1; t <= ticks; t++) {
                check.fine(x, "it SLEEPS yet", x.node(0, 12), ticks + 1 - t);
                x.tick(1);
                check.fine(x, "WORK of who SLEEPS", x.node(0, 0), 2);
                check.fine(x, "DONE of who SLEEPS", x.node(0, 1), 0);
                check.fine(x, "BUSY", x.many(3), 1);
            }
            check.fine(x, "it SLEEPS no more", x.node(0, 12), 0);
            x.tick(1);
            check.fine(x, "WORK of who is awake", x.node(0, 0), 1);
            check.fine(x, "it SLEEPS no more", x.node(0, 12), 0);
            check.fine(x, "ends()", x.ends(), 1);
        }
        // From now on: not beside what it would have; the answer is what it would have.
        WorkEnds x = new WorkEnds();
        x.begin(200);
        check.fine(x, "sleep(1, 50)", x.sleep(1, 50), 0);
        x.tick(3);
        check.fine(x, "sleep(1, 5)", x.sleep(1, 5), 47);
        check.fine(x, "node(1, 12)", x.node(1, 12), 5);
        check.fine(x, "node(0, 12)", x.node(0, 12), 0);
        check.fine(x, "sleep(1, 0)", x.sleep(1, 0), 5);
        check.fine(x, "node(1, 12)", x.node(1, 12), 0);
        check.refused(x, "sleep(1, -1)", x.sleep(1, -1), 1);
        check.refused(x, "sleep(1, 51)", x.sleep(1, 51), 1);
        check.fine(x, "node(1, 12)", x.node(1, 12), 0);
    }

    // "A NODE that SLEEPS does nothing in .. c)"
    private static void sleeperDoesNothingForWatches() {
        WorkEnds x = small();
        x.tick(4);
        x.sleep(0, 10);
        x.tick(10);
        for (int w = 0; w < 4; w++) {
            check.fine(x, "TOLD of " + w, x.watch(w, 0), NONE);
        }
        check.fine(x, "SIGNALS on their way", x.many(7), 0);
        x.tick(1);
        check.fine(x, "TOLD of the TREE", x.watch(0, 0), 15);
        check.fine(x, "TOLD of the TOKEN: a round begins", x.watch(1, 0), NONE);
        check.fine(x, "rounds", x.watch(1, 2), 2);
        check.fine(x, "TOLD of the WEIGHT", x.watch(2, 0), 15);
        check.fine(x, "WAVES", x.watch(3, 2), 2);
        // So for another one than the ROOT: no ACK, no TOKEN, no WEIGHT, no VISITOR goes.
        x = small();
        x.tick(3);
        x.sleep(1, 5);
        x.tick(5);
        nodeIs(x, 1, 1, 1, 0, 1, 0, 1, 0, -1, 1, 524288, 0, 1, 0);
        check.fine(x, "SIGNALS on their way", x.many(7), 0);
        check.fine(x, "where the TOKEN is", x.watch(1, 3), 1);
        check.fine(x, "where the VISITOR is", x.watch(3, 3), 1);
        x.tick(1);
        check.fine(x, "SIGNALS on their way", x.many(7), 4);
        check.fine(x, "TRUTH", x.many(10), 9);
    }

    // "LETTERS come to it as ever"
    private static void lettersComeToASleeper() {
        WorkEnds x = small();
        x.tick(4);
        x.sleep(0, 10);
        x.cut(1);
        x.tick(1);
        check.fine(x, "the ACK came", x.node(0, 6), 0);
        check.fine(x, "the WEIGHT came", x.watch(2, 5), 1048576);
        check.fine(x, "the TOKEN came", x.watch(1, 3), 0);
        check.fine(x, "the VISITOR came", x.watch(3, 3), 0);
        x = small();
        x.tick(2);
        x.sleep(1, 50);
        x.cut(0);
        x.tick(1);
        // The WORK LETTER was sent ahead of the CUT; TOKEN and VISITOR are RED.
        nodeIs(x, 1, 2, 0, 0, 1, 0, 1, 0, -1, 1, 524288, 0, 1, 49, 0);
        check.fine(x, "BUSY", x.many(3), 2);
        eventIs(x, 3, 1, 3, 1);
        x.tick(1);
        nodeIs(x, 1, 2, 0, 0, 1, 0, 1, 0, -1, 1, 524288, 0, 1, 48, 1);
        // One in the TREE that SLEEPS sends its ACK at once.
        x = Texts.of("nodes 2;plan 0 1 1 2;plan 0 2 1 1;");
        x.sleep(1, 50);
        x.begin(3);
        x.tick(3);
        check.fine(x, "WORK", x.node(1, 0), 3);
        letterIs(x, 0, 1, 1, 0);
    }

    /** "As work BEGINS" says nothing of who SLEEPS. */
    private static void sleepAndBegin() {
        WorkEnds x = new WorkEnds();
        x.sleep(0, 4);
        x.begin(1);
        check.fine(x, "node(0, 12)", x.node(0, 12), 4);
        check.fine(x, "ends()", x.ends(), 5);
        x.sleep(1, 50);
        x.tick(5);
        check.fine(x, "node(1, 12)", x.node(1, 12), 45);
        x.begin(1);
        check.fine(x, "node(1, 12)", x.node(1, 12), 45);
        Texts.load(x, "nodes 2;");
        check.fine(x, "node(1, 12) of a new TEXT", x.node(1, 12), 0);
    }

    // "A WORK LETTER that comes: its LOAD is more WORK."
    private static void moreWorkForWhoIsBusy() {
        WorkEnds x = Texts.of("nodes 2;plan 0 1 1 5;plan 0 2 1 3;plan 1 1 0 20;");
        x.begin(5);
        x.tick(2);
        nodeIs(x, 1, 4, 1, 1, 1);
        x.tick(1);
        nodeIs(x, 1, 6, 2, 1, 2);
        nodeIs(x, 0, 22, 3, 2, 1);
        int busy = 0;
        for (int i = 0; i < 3; i++) {
            busy += x.event(i, 0) == 1 ? 1 : 0;
        }
        check.due("EVENTS of becoming BUSY", busy, 1);
    }

    // "CHAIN of a WORK LETTER: 1 and the CHAIN of the LETTER by which its sender became BUSY last (.. 0 for the ROOT ..)"
    private static void chains() {
        WorkEnds x = Texts.of("nodes 4;plan 0 1 1 1;plan 1 1 2 1;plan 2 1 3 1;plan 3 1 0 2;plan 0 2 1 1;");
        x.begin(1);
        for (int t = 1; t <= 5; t++) {
            x.tick(1);
            check.fine(x, "CHAIN at " + t, x.letter(firstWork(x), 6), t);
            check.fine(x, "CHAIN of who SENT it", x.node(t == 5 ? 0 : t - 1, 11), t == 5 ? 4 : t - 1);
        }
        // The ROOT gets a LETTER while it is BUSY: its own stay the first ones of their CHAINS.
        x = Texts.of("nodes 2;plan 0 1 1 1;plan 1 1 0 1;plan 0 4 1 1;");
        x.begin(9);
        x.tick(3);
        check.fine(x, "GOT", x.node(0, 3), 1);
        check.fine(x, "CHAIN of the ROOT's", x.node(0, 11), 0);
        x.tick(1);
        check.fine(x, "CHAIN", x.letter(firstWork(x), 6), 1);
    }

    private static int firstWork(WorkEnds x) {
        int i = 0;
        while (x.letter(i, 0) > 0) {
            i++;
        }
        return i;
    }

    // "the NODE that was the last to be IDLE (of several in one TICK the greatest)"
    private static void lastLetterOfSeveral() {
        // LOADS of NODES 1, 2, 3, which come in one TICK; who is the last.
        int[][] those = {{1, 1, 1, 3}, {2, 1, 1, 1}, {1, 2, 1, 2}, {2, 2, 1, 2}, {2, 1, 2, 3}, {1, 1, 2, 3}};
        for (int[] one : those) {
            WorkEnds x = Texts.of("nodes 4;plan 0 1 1 " + one[0] + ";plan 0 1 2 " + one[1] + ";plan 0 1 3 " + one[2] + ";");
            x.begin(1);
            x.tick(9);
            check.fine(x, "last(0)", x.last(0), 1);
            check.fine(x, "last(1)", x.last(1), 0);
            check.fine(x, "last(2)", x.last(2), one[3]);
            check.fine(x, "last(3)", x.last(3), 2);
        }
        // The ROOT and NODE 1 in one TICK: NODE 1.
        WorkEnds x = Texts.of("nodes 2;plan 0 1 1 2;");
        x.begin(3);
        x.tick(9);
        check.fine(x, "TRUTH", x.many(10), 3);
        check.fine(x, "last(2)", x.last(2), 1);
    }

    // "LAST LETTER: that by which the NODE .. became BUSY last"
    private static void lastLetterIsTheWaking() {
        // NODE 1 becomes BUSY at TICK 2 by the first, and gets the others while it is.
        WorkEnds x = Texts.of("nodes 3;plan 0 1 1 3;plan 0 2 1 3;plan 0 1 2 1;plan 2 1 1 1;");
        x.begin(2);
        x.tick(30);
        check.fine(x, "GOT", x.node(1, 3), 3);
        int[] due = {1, 0, 1, 2};
        for (int what = 0; what < 4; what++) {
            check.fine(x, "last(" + what + ")", x.last(what), due[what]);
        }
        // NODE 1 is IDLE between the two: the second one.
        x = Texts.of("nodes 2;plan 0 1 1 1;plan 0 4 1 1;");
        x.begin(4);
        x.tick(30);
        check.fine(x, "last(3)", x.last(3), 5);
    }

    // Promise 16: "(1; 5: TRUTH is none; there is no such LETTER)"
    private static void noLastLetter() {
        WorkEnds x = new WorkEnds();
        check.refused(x, "last(0) ahead of any work", x.last(0), 5);
        x.plan(0, 1, 1, 1);
        x.begin(1);
        x.tick(1);
        check.refused(x, "last(0) ahead of TRUTH", x.last(0), 5);
        x.tick(1);
        check.fine(x, "last(0) at TRUTH", x.last(0), 1);
        x.begin(9);
        check.refused(x, "last(0) of new work", x.last(0), 5);
        x.tick(9);
        check.fine(x, "TRUTH", x.many(10), 11);
        check.refused(x, "last(0): the ROOT was the last", x.last(0), 5);
        check.refused(x, "last(4)", x.last(4), 1);
    }

    // "EVENTS, the latest 24", promise 20: "the latest first (0 to 23) (1; 5)"
    private static void latest24Events() {
        WorkEnds x = new WorkEnds();
        check.refused(x, "event(0, 0) of none", x.event(0, 0), 5);
        check.refused(x, "event(23, 0) of none", x.event(23, 0), 5);
        check.refused(x, "event(24, 0) of none", x.event(24, 0), 1);
        x.begin(1);
        eventIs(x, 0, 0, 0, 1);
        check.refused(x, "event(1, 0) of one", x.event(1, 0), 5);
        x.tick(20);
        eventIs(x, 9, 0, 0, 1);
        check.refused(x, "event(10, 0) of ten", x.event(10, 0), 5);
        x.plan(0, 1, 1, 1);
        x.begin(1);
        x.tick(20);
        eventIs(x, 12, 0, 20, 1);
        eventIs(x, 22, 0, 0, 1);
        check.refused(x, "event(23, 0) of 23", x.event(23, 0), 5);
        x.drop(0);
        x.plan(0, 1, 1, 2);
        x.begin(9);
        eventIs(x, 0, 0, 40, 9);
        eventIs(x, 23, 0, 0, 1);
        check.refused(x, "event(24, 0) of 24", x.event(24, 0), 1);
        x.tick(1);
        eventIs(x, 23, 0, 0, 1);
        x.tick(1);
        // NODE 1 became BUSY: the 25th; of the first nothing is known any more.
        eventIs(x, 0, 1, 42, 1);
        eventIs(x, 1, 0, 40, 9);
        eventIs(x, 14, 0, 20, 1);
        eventIs(x, 23, 2, 1, 0);
        check.refused(x, "event(24, 0) of 25", x.event(24, 0), 1);
        check.refused(x, "event(-1, 0)", x.event(-1, 0), 1);
        for (int what : new int[] {-1, 3}) {
            check.refused(x, "event(0, " + what + ")", x.event(0, what), 1);
        }
    }

    // "0 work BEGAN (of the ROOT nothing else then), 1 a NODE became BUSY, 2 IDLE, 3 TRUTH, .. a number: .."
    private static void kindsOfEvents() {
        WorkEnds x = Texts.of("nodes 2;plan 0 1 1 1;plan 1 1 0 1;");
        x.tick(7);
        x.begin(2);
        eventIs(x, 0, 0, 7, 2);
        check.refused(x, "event(1, 0): the ROOT is BUSY, but of that there is none", x.event(1, 0), 5);
        x.tick(300);
        // At 9 NODE 1 is BUSY and IDLE, the ROOT is IDLE; at 10 the ROOT is BUSY and IDLE again: TRUTH.
        int[][] due = {{0, 7, 2}, {1, 9, 1}, {2, 9, 0}, {2, 9, 1}, {6, 9, 1}, {6, 9, 3}, {1, 10, 0}, {2, 10, 0}};
        int many = 0;
        while (many < 24 && x.event(many, 0) != NONE) {
            many++;
        }
        for (int i = 0; i < due.length; i++) {
            eventIs(x, many - 1 - i, due[i][0], due[i][1], due[i][2]);
        }
        for (int i = 0; i < many; i++) {
            if (x.event(i, 0) == 3) {
                eventIs(x, i, 3, 10, 2);
            }
            if (x.event(i, 0) == 4) {
                eventIs(x, i, 4, x.watch(x.event(i, 2), 0), x.event(i, 2));
            }
        }
    }

    // "MARKS, at most 3", promise 29 "A MARK more: how many (3)", promise 30 "how many are left (5)"
    private static void atMostThreeMarks() {
        WorkEnds x = new WorkEnds();
        check.refused(x, "back() of none", x.back(), 5);
        for (int i = 1; i <= 3; i++) {
            x.tick(1);
            check.fine(x, "mark()", x.mark(), i);
            check.fine(x, "many(11)", x.many(11), i);
        }
        x.tick(1);
        check.refused(x, "mark() of a fourth", x.mark(), 3);
        check.fine(x, "many(11)", x.many(11), 3);
        check.fine(x, "back()", x.back(), 2);
        check.fine(x, "the TICK of the third", x.many(2), 3);
        x.tick(6);
        check.fine(x, "mark() of a third again", x.mark(), 3);
        check.refused(x, "mark() of a fourth", x.mark(), 3);
        x.tick(6);
        check.fine(x, "back()", x.back(), 2);
        check.fine(x, "the TICK of the new third", x.many(2), 9);
        check.fine(x, "back()", x.back(), 1);
        check.fine(x, "the TICK of the second", x.many(2), 2);
        check.fine(x, "back()", x.back(), 0);
        check.fine(x, "the TICK of the first", x.many(2), 1);
        check.fine(x, "many(11)", x.many(11), 0);
        check.refused(x, "back() of none", x.back(), 5);
        check.fine(x, "many(2)", x.many(2), 1);
    }

    private static WorkEnds atWork(int ticks) {
        WorkEnds x = Texts.of("nodes 4;both 0 1 2;wire 2 0 5;plan 0 1 1 6;plan 0 2 2 3;plan 1 2 3 4;plan 3 1 0 1;"
            + "plan 0 6 3 2;");
        x.begin(6);
        x.tick(5);
        x.cut(1);
        x.sleep(3, 4);
        x.tick(ticks);
        return x;
    }

    private static WorkEnds crossed() {
        WorkEnds x = small();
        x.tick(2);
        x.cut(1);
        x.tick(1);
        return x;
    }

    private static WorkEnds minted() {
        WorkEnds x = new WorkEnds();
        for (int i = 0; i < 25; i++) {
            x.plan(0, 1, 1, 1);
        }
        x.begin(2);
        x.tick(1);
        return x;
    }

    private static WorkEnds inState(int state) {
        return switch (state) {
            case 0 -> atWork(2);
            case 1 -> atWork(9);
            case 2 -> atWork(60);
            case 3 -> crossed();
            case 4 -> minted();
            default -> small();
        };
    }

    private static void muchIsDone(WorkEnds x) {
        x.tick(9);
        x.cut(1);
        x.wires(0, 1, 9);
        x.drop(1);
        x.plan(1, 7, 0, 9);
        x.sleep(1, 30);
        x.mark();
        x.tick(200);
        x.add();
        x.begin(3);
        x.tick(40);
        x.mark();
        Texts.load(x, "nodes 8;wire 0 1 5;");
        x.begin(200);
        x.tick(30);
    }

    // "all but the tape and what fault() tells is taken back to the latest one, which is gone then"
    private static void backTakesAllBack() {
        for (int state = 0; state < 6; state++) {
            for (int part = 0; part < Looks.PARTS - 1; part++) {
                for (int later : new int[] {0, 1, 3, 40}) {
                    WorkEnds x = inState(state);
                    x.mark();
                    muchIsDone(x);
                    check.fine(x, "back()", x.back(), 2);
                    check.fine(x, "back()", x.back(), 1);
                    check.fine(x, "back()", x.back(), 0);
                    WorkEnds y = inState(state);
                    // What fault() tells is not taken back: so both have loaded something.
                    if (state > 2) {
                        y.mark();
                        Texts.load(y, "nodes 2;");
                        y.back();
                    }
                    if (later > 0) {
                        x.tick(later);
                        y.tick(later);
                    }
                    same(x, y, part, "taken back, " + later + " TICKS later");
                }
            }
        }
        WorkEnds x = new WorkEnds();
        Texts.feed(x, "nodes 3;?");
        x.mark();
        x.load(9);
        Texts.feed(x, "nodes 3;nodes 4;     nodes 5;");
        check.fine(x, "back()", x.back(), 0);
        check.due("fault(0)", x.fault(0), 1);
        check.due("fault(1)", x.fault(1), 8);
        check.due("feed()", x.feed(0, 0, 0, 0, 0), 60);
        check.fine(x, "load(8)", x.load(8), 3);
    }
}
