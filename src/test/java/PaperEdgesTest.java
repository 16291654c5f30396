/** What section 4 and promises 21 to 38 say of bounds: what is done, and what goes ON PAPER. */
public final class PaperEdgesTest {
    private static final Check check = new Check();
    private static final int NONE = WorkEnds.NONE;

    public static void main(String[] args) {
        beginTakes1To200();
        beginWhileWorkGoesOn();
        tickTakes1To300();
        ticksAreTickByTick();
        cutsSinceWorkBegan();
        addNeedsNoSignal();
        endsAndTells();
        wholeInAtMost2000();
        wholeWhenASleeperWakes();
        wholeNeverComes();
        wouldAtBothEnds();
        wouldIsWhatComes();
        withIsAsByWires();
        marginMayBeBelowZero();
        quickestOfSeveralTheFirst();
        enoughIsTheLeast();
        onPaperAllStays();
        check.end();
    }

    private static WorkEnds small() {
        WorkEnds x = new WorkEnds();
        x.plan(0, 2, 1, 2);
        x.begin(3);
        return x;
    }

    // Promise 21: "the ROOT has so much (1 to 200): the TICK (1; 6)"
    private static void beginTakes1To200() {
        for (int load : new int[] {1, 2, 199, 200}) {
            WorkEnds x = new WorkEnds();
            x.tick(17);
            check.fine(x, "begin(" + load + ")", x.begin(load), 17);
            check.fine(x, "WORK", x.node(0, 0), load);
            check.fine(x, "ends()", x.ends(), load);
            check.fine(x, "event(0, 2)", x.event(0, 2), load);
            check.fine(x, "many(9)", x.many(9), 17);
        }
        WorkEnds x = new WorkEnds();
        for (int load : new int[] {Integer.MIN_VALUE, -1, 0, 201, 202, Integer.MAX_VALUE}) {
            check.refused(x, "begin(" + load + ")", x.begin(load), 1);
            check.refused(x, "would(" + load + ", 0, 0)", x.would(load, 0, 0), 1);
            check.refused(x, "quickest(" + load + ")", x.quickest(load), 1);
            check.refused(x, "margin(" + load + ", 0)", x.margin(load, 0), 1);
            check.refused(x, "with(" + load + ", 0, 0, 1, 1)", x.with(load, 0, 0, 1, 1), 1);
        }
        check.fine(x, "many(9): no work BEGAN", x.many(9), NONE);
        check.refused(x, "ends()", x.ends(), 7);
    }

    // "6 work goes on (a NODE is BUSY, or a WORK LETTER is on its way)"
    private static void beginWhileWorkGoesOn() {
        // BUSY; BUSY, and a LETTER on its way; twice a LETTER alone; SIGNALS alone.
        int[] due = {6, 6, 6, 6, 0};
        for (int t = 0; t < 5; t++) {
            WorkEnds x = oneLetter();
            if (t > 0) {
                x.tick(t);
            }
            int got = x.begin(1);
            check.due("begin(1) at " + t, got, due[t] == 0 ? t : NONE);
            check.due("its STATUS", x.status(), due[t]);
        }
        WorkEnds x = oneLetter();
        x.tick(4);
        check.holds("SIGNALS on their way", x.many(7) > 0);
        check.fine(x, "would(1, 0, 0)", x.would(1, 0, 0), 4);
        check.fine(x, "quickest(1)", x.quickest(1), 0);
        check.fine(x, "enough()", x.enough(), 1);
        check.holds("margin(1, 0)", x.margin(1, 0) >= 0);
        check.holds("with(1, 0, 0, 1, 1)", x.with(1, 0, 0, 1, 1) >= 0);
    }

    private static WorkEnds oneLetter() {
        WorkEnds x = new WorkEnds();
        x.plan(0, 1, 1, 1);
        x.wires(0, 1, 3);
        x.begin(2);
        return x;
    }

    // Promise 28: "TICKS go by (1 to 300): the TICK (1)"
    private static void tickTakes1To300() {
        WorkEnds x = new WorkEnds();
        int now = 0;
        for (int many : new int[] {1, 2, 299, 300}) {
            now += many;
            check.fine(x, "tick(" + many + ")", x.tick(many), now);
        }
        for (int many : new int[] {Integer.MIN_VALUE, -300, -1, 0, 301, 302, Integer.MAX_VALUE}) {
            check.refused(x, "tick(" + many + ")", x.tick(many), 1);
            check.fine(x, "many(2)", x.many(2), now);
        }
        x.begin(200);
        x.tick(199);
        check.fine(x, "TRUTH", x.many(10), NONE);
        check.fine(x, "tick(1)", x.tick(1), now + 200);
        check.fine(x, "TRUTH", x.many(10), now + 200);
    }

    private static void ticksAreTickByTick() {
        String text = "nodes 5;both 0 1 2;wire 2 0 5;wire 3 4 9;plan 0 1 1 6;plan 0 2 2 3;plan 1 2 3 4;plan 3 1 4 20;"
            + "plan 4 9 0 2;plan 4 10 2 1;";
        for (int many : new int[] {2, 7, 19, 31, 60, 100}) {
            for (int part = 0; part < 5; part++) {
                WorkEnds x = Texts.of(text);
                WorkEnds y = Texts.of(text);
                x.begin(9);
                y.begin(9);
                x.tick(many);
                for (int t = 0; t < many; t++) {
                    y.tick(1);
                }
                var got = Looks.part(x, part);
                var want = Looks.part(y, part);
                check.due("how much is seen", got.size(), want.size());
                for (int i = 0; i < Math.min(got.size(), want.size()); i++) {
                    check.holds(got.get(i) + ", due is " + want.get(i), got.get(i).equals(want.get(i)));
                }
            }
        }
    }

    // Promise 27: "how many did since work BEGAN (2; 7)"
    private static void cutsSinceWorkBegan() {
        WorkEnds x = new WorkEnds();
        check.refused(x, "cut(0) ahead of any work", x.cut(0), 7);
        check.refused(x, "cut(2) ahead of any work", x.cut(2), 2);
        check.refused(x, "cut(-1) ahead of any work", x.cut(-1), 2);
        x.begin(3);
        for (int i = 1; i <= 30; i++) {
            check.fine(x, "cut()", x.cut(i % 2), i);
        }
        check.refused(x, "cut(2)", x.cut(2), 2);
        x.tick(300);
        check.fine(x, "cut(1)", x.cut(1), 31);
        x.begin(3);
        check.fine(x, "cut(0)", x.cut(0), 1);
    }

    // Promise 25: "(3; 5: a SIGNAL is on its way; 6)"
    private static void addNeedsNoSignal() {
        WorkEnds x = small();
        int[] due = {6, 6, 6, 5, 5, 5, 5, 0};
        for (int t = 0; t < due.length; t++) {
            if (due[t] != 0) {
                check.refused(x, "add() at " + t, x.add(), due[t]);
                check.fine(x, "NODES", x.many(0), 2);
                x.tick(1);
            }
        }
        check.fine(x, "add()", x.add(), 2);
        check.fine(x, "NODES", x.many(0), 3);
        check.fine(x, "begin(3)", x.begin(3), 7);
        check.refused(x, "add()", x.add(), 6);
    }

    // Promises 31, 32: "In how many TICKS TRUTH is (0: it is) (7)", "a WATCH has TOLD (0: it has) (2; 7)"
    private static void endsAndTells() {
        WorkEnds x = new WorkEnds();
        check.refused(x, "ends()", x.ends(), 7);
        for (int w = -1; w <= 4; w++) {
            check.refused(x, "tells(" + w + ")", x.tells(w), w < 0 || w > 3 ? 2 : 7);
        }
        x = small();
        int[] told = {5, 7, 5, 7};
        for (int t = 0; t < 10; t++) {
            check.fine(x, "ends() at " + t, x.ends(), Math.max(0, 4 - t));
            for (int w = 0; w < 4; w++) {
                check.fine(x, "tells(" + w + ") at " + t, x.tells(w), Math.max(0, told[w] - t));
            }
            check.refused(x, "tells(-1)", x.tells(-1), 2);
            check.refused(x, "tells(4)", x.tells(4), 2);
            x.tick(1);
        }
    }

    /** NODE 1 gets 800 units by each of three batches of ROWS; all of it ends at TICK 2,401. */
    private static WorkEnds long1() {
        WorkEnds x = new WorkEnds();
        for (int batch = 1; batch <= 3; batch++) {
            for (int i = 0; i < 40; i++) {
                if (batch > 1) {
                    x.drop(0);
                }
                x.plan(0, batch, 1, 20);
            }
            if (batch == 1) {
                x.begin(3);
            }
            x.tick(1);
        }
        x.tick(300);
        return x;
    }

    // "(for a CUT 2,000 at most)", promise 33: "(2; 7; 8)"; for others "as many as it takes"
    private static void wholeInAtMost2000() {
        WorkEnds x = long1();
        check.fine(x, "tick(97)", x.tick(97), 400);
        // NODE 1's RED SIGNALS go at TICK 2,401, and come at 2,402.
        check.refused(x, "whole(1) in 2,002", x.whole(1), 8);
        check.fine(x, "ends()", x.ends(), 2001);
        check.fine(x, "tells(2)", x.tells(2), 2002);
        check.fine(x, "tells(1)", x.tells(1), 2004);
        x.tick(1);
        check.refused(x, "whole(1) in 2,001", x.whole(1), 8);
        x.tick(1);
        check.fine(x, "whole(1)", x.whole(1), 2000);
        x.tick(1);
        check.fine(x, "whole(1)", x.whole(1), 1999);
        // A CUT that is begun has no such bound.
        x = long1();
        x.cut(1);
        for (int i = 0; i < 6; i++) {
            x.tick(300);
        }
        x.tick(298);
        check.fine(x, "many(2)", x.many(2), 2401);
        check.fine(x, "cutting(1)", x.cutting(1), 0);
        x.tick(1);
        check.fine(x, "cutting(8)", x.cutting(8), 2402);
    }

    /** No LETTER is on its way, nobody is BUSY, and all watches but one have TOLD: that one's SIGNAL is a sleeper's. */
    private static void wholeWhenASleeperWakes() {
        // The VISITOR.
        WorkEnds x = new WorkEnds();
        x.begin(1);
        x.tick(3);
        x.sleep(1, 20);
        x.tick(1);
        toldIs(x, true, true, true, false);
        check.fine(x, "whole(1)", x.whole(1), 21);
        check.refused(x, "whole(0)", x.whole(0), 8);
        // The TOKEN, by a slow WIRE to NODE 2.
        x = Texts.of("nodes 3;wire 0 2 9;");
        x.begin(1);
        x.tick(8);
        x.sleep(2, 20);
        x.tick(2);
        toldIs(x, true, false, true, true);
        check.fine(x, "whole(2)", x.whole(2), 21);
        check.refused(x, "whole(0)", x.whole(0), 8);
        // The ACK of NODE 1, who OWED until a slow ACK of the ROOT's came.
        x = Texts.of("nodes 2;plan 0 1 1 1;plan 1 1 0 1;");
        x.begin(1);
        x.tick(2);
        x.wires(0, 1, 9);
        x.sleep(0, 1);
        x.tick(1);
        x.wires(0, 1, 1);
        x.tick(5);
        x.sleep(1, 20);
        x.tick(4);
        toldIs(x, false, true, true, true);
        check.fine(x, "whole(1)", x.whole(1), 18);
        check.refused(x, "whole(0)", x.whole(0), 8);
    }

    private static void toldIs(WorkEnds x, boolean... told) {
        check.fine(x, "LETTERS on their way", x.many(6) + x.many(7), 0);
        check.fine(x, "BUSY", x.many(3), 0);
        for (int w = 0; w < 4; w++) {
            check.holds("WATCH " + w + " has TOLD", x.watch(w, 0) != NONE == told[w]);
        }
    }

    // "8 it does not come to that"
    private static void wholeNeverComes() {
        WorkEnds x = new WorkEnds();
        check.refused(x, "whole(0)", x.whole(0), 7);
        check.refused(x, "whole(2)", x.whole(2), 2);
        check.refused(x, "whole(-1)", x.whole(-1), 2);
        x.begin(1);
        // The TOKEN, RED, comes to NODE 1 at TICK 2; from NODE 1 the TOKEN comes back at 3.
        check.fine(x, "whole(0)", x.whole(0), 2);
        check.fine(x, "whole(1)", x.whole(1), 3);
        x.tick(1);
        // On their way to NODE 1 they are not RED; the VISITOR goes once more at TICK 3.
        check.fine(x, "whole(0)", x.whole(0), 3);
        check.fine(x, "whole(1)", x.whole(1), 2);
        x.tick(1);
        check.fine(x, "whole(0)", x.whole(0), 2);
        // NODE 1 sends the VISITOR of the second WAVE at TICK 4.
        check.fine(x, "whole(1)", x.whole(1), 3);
        x.tick(1);
        check.refused(x, "whole(0): the ROOT sends nothing more", x.whole(0), 8);
        check.fine(x, "whole(1)", x.whole(1), 2);
        x.tick(1);
        check.refused(x, "whole(1): nor does NODE 1", x.whole(1), 8);
        check.refused(x, "whole(0)", x.whole(0), 8);
        x.tick(300);
        check.refused(x, "whole(1)", x.whole(1), 8);
        check.refused(x, "whole(2)", x.whole(2), 2);
        // What was RED ahead of it does not count for it.
        x = small();
        x.cut(0);
        x.tick(3);
        check.fine(x, "cutting(1)", x.cutting(1), 1);
        check.fine(x, "whole(1)", x.whole(1), 2);
        check.fine(x, "whole(0)", x.whole(0), 3);
        check.fine(x, "cutting(1)", x.cutting(1), 1);
        check.fine(x, "cutting(8)", x.cutting(8), 3);
    }

    // Promise 34: "with a LOAD for the ROOT, what 0: TRUTH, 1: TOLD of a WATCH, both less the TICK now, 2: LAG, 3: SIGNALS"
    private static void wouldAtBothEnds() {
        int[][] late = {{0, 2, 0, 4}, {0, 2, 0, 4}};
        int[] signals = {0, 2, 0, 4};
        WorkEnds x = new WorkEnds();
        x.tick(50);
        for (int i = 0; i < 2; i++) {
            int load = i == 0 ? 1 : 200;
            for (int w = 0; w < 4; w++) {
                check.fine(x, "would(" + load + ", " + w + ", 0)", x.would(load, w, 0), load);
                check.fine(x, "would(" + load + ", " + w + ", 1)", x.would(load, w, 1), load + late[i][w]);
                check.fine(x, "would(" + load + ", " + w + ", 2)", x.would(load, w, 2), late[i][w]);
                check.fine(x, "would(" + load + ", " + w + ", 3)", x.would(load, w, 3), signals[w]);
                check.refused(x, "would(" + load + ", " + w + ", 4)", x.would(load, w, 4), 1);
                check.refused(x, "would(" + load + ", " + w + ", -1)", x.would(load, w, -1), 1);
            }
        }
        check.refused(x, "would(1, 4, 0)", x.would(1, 4, 0), 2);
        check.refused(x, "would(1, -1, 0)", x.would(1, -1, 0), 2);
    }

    private static void wouldIsWhatComes() {
        for (int load : new int[] {1, 3, 10, 200}) {
            WorkEnds x = Texts.of("nodes 4;both 0 1 2;wire 2 0 5;wire 3 0 9;plan 0 1 1 6;plan 0 2 2 3;plan 1 2 3 4;"
                + "plan 3 4 0 20;plan 0 20 2 1;");
            x.begin(2);
            x.tick(100);
            int[][] said = new int[4][4];
            for (int w = 0; w < 4; w++) {
                for (int what = 0; what < 4; what++) {
                    said[w][what] = x.would(load, w, what);
                }
                check.fine(x, "margin()", x.margin(load, w), x.bound(w) - said[w][2]);
            }
            int quickest = x.quickest(load);
            x.begin(load);
            x.tick(300);
            for (int w = 0; w < 4; w++) {
                int[] came = {x.many(10) - 100, x.watch(w, 0) - 100, x.lag(w), x.watch(w, 1)};
                for (int what = 0; what < 4; what++) {
                    check.due("would(" + load + ", " + w + ", " + what + ")", said[w][what], came[what]);
                }
            }
            check.due("quickest(" + load + ")", quickest, x.best(0));
        }
    }

    // Promise 35: "So, LAG of a WATCH, with a WIRE of so many TICKS"
    private static void withIsAsByWires() {
        for (int ticks = 1; ticks <= 9; ticks++) {
            for (int a = 0; a < 3; a++) {
                for (int b = 0; b < 3; b++) {
                    if (a == b) {
                        continue;
                    }
                    WorkEnds x = Texts.of("nodes 3;wire 0 1 3;wire 2 0 2;plan 0 1 1 4;plan 1 2 2 3;plan 2 3 0 1;");
                    int[] said = new int[4];
                    int was = x.wire(a, b);
                    for (int w = 0; w < 4; w++) {
                        said[w] = x.with(2, w, a, b, ticks);
                    }
                    check.fine(x, "wire() stays", x.wire(a, b), was);
                    x.wires(a, b, ticks);
                    for (int w = 0; w < 4; w++) {
                        check.fine(x, "with(2, " + w + ", " + a + ", " + b + ", " + ticks + ")", said[w], x.would(2, w, 2));
                    }
                }
            }
        }
    }

    // Promise 36: "So, BOUND of a WATCH less its LAG" ("if nobody SLEEPS" it is never below 0)
    private static void marginMayBeBelowZero() {
        for (int ticks : new int[] {0, 1, 2, 4, 5, 6, 7, 50}) {
            WorkEnds x = new WorkEnds();
            x.sleep(1, ticks);
            // The TOKEN comes to NODE 1 at TICK 2, and goes on at TICK ticks + 1.
            check.fine(x, "margin(1, 1) with " + ticks, x.margin(1, 1), Math.min(4, 5 - ticks));
            check.fine(x, "margin(1, 0) with " + ticks, x.margin(1, 0), 2);
            check.fine(x, "margin(1, 2) with " + ticks, x.margin(1, 2), 1);
        }
        WorkEnds x = new WorkEnds();
        check.refused(x, "margin(0, 4)", x.margin(0, 4), 1);
        check.refused(x, "margin(1, 4)", x.margin(1, 4), 2);
        check.refused(x, "margin(1, -1)", x.margin(1, -1), 2);
    }

    // Promise 37: "the WATCH with the least LAG, of several the first"
    private static void quickestOfSeveralTheFirst() {
        // TREE and WEIGHT alike; TOKEN and VISITOR where their way avoids the slow WIRE; the WEIGHT alone.
        WorkEnds x = new WorkEnds();
        check.fine(x, "quickest(1)", x.quickest(1), 0);
        check.fine(x, "quickest(200)", x.quickest(200), 0);
        x = Texts.of("nodes 3;wire 2 0 9;plan 0 1 2 1;");
        check.fine(x, "LAG of the TREE", x.would(1, 0, 2), 9);
        check.fine(x, "LAG of the TOKEN", x.would(1, 1, 2), 5);
        check.fine(x, "LAG of the WEIGHT", x.would(1, 2, 2), 9);
        check.fine(x, "quickest(1)", x.quickest(1), 1);
        x = Texts.of("nodes 3;wire 1 0 9;plan 0 1 1 1;");
        check.fine(x, "LAG of the TREE", x.would(1, 0, 2), 9);
        check.fine(x, "LAG of the WEIGHT", x.would(1, 2, 2), 9);
        check.fine(x, "LAG of the WAVES", x.would(1, 3, 2), 5);
        check.fine(x, "quickest(1)", x.quickest(1), 3);
        x = Texts.of("nodes 3;wire 2 1 9;plan 0 1 1 1;plan 1 1 2 1;");
        check.fine(x, "LAG of the WEIGHT", x.would(1, 2, 2), 1);
        check.fine(x, "LAG of the TREE", x.would(1, 0, 2), 10);
        check.fine(x, "quickest(1)", x.quickest(1), 2);
    }

    // Promise 38: "the least LOAD with which as many WORK LETTERS are SENT by TRUTH as with 200 (6)"
    private static void enoughIsTheLeast() {
        WorkEnds x = new WorkEnds();
        check.fine(x, "enough() without ROWS", x.enough(), 1);
        for (int after : new int[] {1, 2, 3, 100, 199, 200}) {
            x = new WorkEnds();
            x.plan(0, after, 1, 1);
            check.fine(x, "enough() for AFTER " + after, x.enough(), after);
            x.plan(1, 2, 0, 1);
            check.fine(x, "enough() with one that is never SENT", x.enough(), after);
        }
        // What comes back to the ROOT is as good as its LOAD: at TICK 1 a LETTER goes, which brings back 20.
        x = Texts.of("nodes 2;plan 0 1 1 1;plan 1 1 0 20;plan 0 21 1 1;plan 0 30 1 1;");
        check.fine(x, "enough()", x.enough(), 10);
        // Beyond 200 by what comes back: with 200 it is SENT, so no less will do than leads to 200.
        x = Texts.of("nodes 2;plan 0 180 1 1;plan 1 1 0 20;plan 0 200 1 1;");
        check.fine(x, "enough()", x.enough(), 180);
        x = Texts.of("nodes 2;plan 0 190 1 1;plan 1 1 0 15;plan 0 200 1 1;");
        check.fine(x, "enough()", x.enough(), 190);
        // Sleepers and slow WIRES do not matter.
        x.wires(0, 1, 9);
        x.sleep(1, 50);
        x.sleep(0, 50);
        check.fine(x, "enough()", x.enough(), 190);
        x.begin(1);
        check.refused(x, "enough()", x.enough(), 6);
    }

    // "ON PAPER all stays as it is"
    private static void onPaperAllStays() {
        for (int part = 0; part < Looks.PARTS; part++) {
            WorkEnds x = stayed();
            WorkEnds y = stayed();
            for (int i = 0; i < 4; i++) {
                x.ends();
                x.tells(i);
                x.whole(i);
                x.would(200, i, i);
                x.with(150, i, 2, 0, 9);
                x.margin(7, i);
                x.quickest(90);
                x.enough();
            }
            x.tick(3);
            y.tick(3);
            var got = Looks.part(x, part);
            var want = Looks.part(y, part);
            for (int i = 0; i < want.size(); i++) {
                check.holds(got.get(i) + ", due is " + want.get(i), got.get(i).equals(want.get(i)));
            }
        }
    }

    private static WorkEnds stayed() {
        WorkEnds x = Texts.of("nodes 4;both 0 1 2;wire 2 0 5;plan 0 1 1 6;plan 0 2 2 3;plan 1 2 3 4;");
        x.begin(5);
        x.tick(11);
        x.cut(2);
        x.sleep(1, 2);
        x.mark();
        Texts.feed(x, "nodes 2;wire 1 0 4;");
        return x;
    }
}
