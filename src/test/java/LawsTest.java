/**
 * What must hold of every run, whatever the plan: the watches never tell too early or later than their BOUND, nothing is
 * lost on its way, and what was said ON PAPER is what comes.
 */
public final class LawsTest {
    private static final Check check = new Check();
    private static long seed = 4711;

    private static int upTo(int bound) {
        seed = seed * 6364136223846793005L + 1442695040888963407L;
        return (int) ((seed >>> 33) % bound);
    }

    private static WorkEnds world(int nodes) {
        WorkEnds x = new WorkEnds();
        for (int i = 2; i < nodes; i++) {
            x.add();
        }
        for (int i = 0; i < 30; i++) {
            x.wires(upTo(nodes), upTo(nodes), 1 + upTo(9));
        }
        int rows = upTo(40);
        for (int i = 0; i < rows; i++) {
            x.plan(upTo(nodes), 1 + upTo(12), upTo(nodes), 1 + upTo(5));
        }
        return x;
    }

    public static void main(String[] args) {
        for (int run = 0; run < 400; run++) {
            int nodes = 2 + upTo(7);
            WorkEnds x = world(nodes);
            x.tick(1 + upTo(5));
            int load = 1 + upTo(30);
            boundHolds(x, load);
            paperComes(x, load);
            enoughIsLeast(x);
        }
        for (int run = 0; run < 200; run++) {
            WorkEnds x = world(2 + upTo(7));
            nothingIsLost(x);
        }
        for (int run = 0; run < 200; run++) {
            cutsAreWhole(world(2 + upTo(7)));
        }
        check.end();
    }

    private static void boundHolds(WorkEnds x, int load) {
        for (int w = 0; w < 4; w++) {
            int late = x.would(load, w, 2);
            check.holds("LAG " + late + " of " + w + " within its BOUND " + x.bound(w),
                late >= 0 && late <= x.bound(w));
            check.due("margin", x.margin(load, w), x.bound(w) - late);
        }
    }

    private static void paperComes(WorkEnds x, int load) {
        int now = x.many(2);
        int truth = x.would(load, 0, 0);
        int quickest = x.quickest(load);
        int[] told = new int[4];
        int[] signals = new int[4];
        int[] late = new int[4];
        for (int w = 0; w < 4; w++) {
            told[w] = x.would(load, w, 1);
            signals[w] = x.would(load, w, 3);
            late[w] = x.with(load, w, 0, 1, x.wire(0, 1));
        }
        x.mark();
        x.begin(load);
        check.due("ends()", x.ends(), truth);
        for (int t = 0; t < truth; t++) {
            check.due("TRUTH ahead of its TICK", x.many(10), WorkEnds.NONE);
            check.due("best() ahead of TRUTH", x.best(0), t < truth ? WorkEnds.NONE : 0);
            x.tick(1);
        }
        check.due("TRUTH", x.many(10), now + truth);
        check.due("ends() at TRUTH", x.ends(), 0);
        for (int w = 0; w < 4; w++) {
            check.due("tells(" + w + ")", x.tells(w), told[w] - truth);
        }
        int most = Math.max(Math.max(told[0], told[1]), Math.max(told[2], told[3]));
        for (int t = truth; t < most; t++) {
            for (int w = 0; w < 4; w++) {
                check.due("TOLD of " + w, x.watch(w, 0), t >= told[w] ? now + told[w] : WorkEnds.NONE);
            }
            x.tick(1);
        }
        for (int w = 0; w < 4; w++) {
            check.due("TOLD of " + w, x.watch(w, 0), now + told[w]);
            check.due("SIGNALS of " + w, x.watch(w, 1), signals[w]);
            check.due("lag(" + w + ")", x.lag(w), told[w] - truth);
            check.due("with() the same WIRE", late[w], told[w] - truth);
            check.due("tells(" + w + ") then", x.tells(w), 0);
        }
        check.due("quickest(" + load + ")", quickest, x.best(0));
        x.back();
        check.due("TICK after back()", x.many(2), now);
    }

    private static int sentWith(WorkEnds x, int load) {
        x.mark();
        x.begin(load);
        x.tick(Math.min(300, x.ends()));
        while (x.many(10) == WorkEnds.NONE) {
            x.tick(1);
        }
        int sent = x.many(8);
        x.back();
        return sent;
    }

    private static void enoughIsLeast(WorkEnds x) {
        int enough = x.enough();
        int all = sentWith(x, 200);
        check.due("SENT with enough()", sentWith(x, enough), all);
        check.holds("enough() is the least", enough == 1 || sentWith(x, enough - 1) < all);
    }

    /** With sleepers, new WIRES and ROWS and MARKS, too. */
    private static void nothingIsLost(WorkEnds x) {
        x.begin(1 + upTo(20));
        for (int t = 0; t < 60; t++) {
            int nodes = x.many(0);
            switch (upTo(6)) {
                case 0 -> x.sleep(upTo(nodes), upTo(10));
                case 1 -> x.wires(upTo(nodes), upTo(nodes), 1 + upTo(9));
                case 2 -> x.plan(upTo(nodes), 1 + upTo(12), upTo(nodes), 1 + upTo(5));
                case 3 -> x.drop(upTo(40));
                default -> { }
            }
            x.tick(1);
            int tallies = 0;
            int acks = 0;
            int owed = 0;
            int gone = 0;
            int inTree = 0;
            for (int i = 0; i < nodes; i++) {
                tallies += x.node(i, 7);
                owed += x.node(i, 6);
                inTree += x.node(i, 5);
                gone += x.node(i, 2) - x.node(i, 3);
            }
            for (int i = 0; i < x.many(6) + x.many(7); i++) {
                acks += x.letter(i, 0) == 1 ? 1 : 0;
            }
            check.due("TALLIES together", tallies, x.many(6));
            check.due("SENT less GOT", gone, x.many(6));
            check.due("what all OWE", owed, x.many(6) + acks + inTree - 1);
            check.due("what all OWE by watch()", x.watch(0, 4), owed);
            check.due("WEIGHTS", x.weights(0) + x.weights(1) + x.weights(2), x.weights(3));
            for (int w = 0; w < 4; w++) {
                check.holds("nobody tells ahead of TRUTH", x.watch(w, 0) == WorkEnds.NONE || x.many(10) != WorkEnds.NONE
                    && x.watch(w, 0) >= x.many(10));
            }
        }
    }

    private static void cutsAreWhole(WorkEnds x) {
        x.begin(1 + upTo(20));
        x.tick(1 + upTo(20));
        int at = upTo(x.many(0));
        int ticks = x.whole(at);
        int before = x.many(2);
        x.cut(at);
        if (ticks == WorkEnds.NONE) {
            x.tick(300);
            check.due("a CUT that does not become WHOLE", x.cutting(1), 0);
            return;
        }
        if (ticks > 1) {
            x.tick(ticks - 1);
        }
        check.due("a TICK ahead of whole()", x.cutting(1), 0);
        x.tick(1);
        check.due("WHOLE as whole() said", x.cutting(8), before + ticks);
        x.tick(20);
        // All that were SENT ahead of the CUT and GOT behind it CROSSED.
        check.due("SENT less GOT is what CROSSED", x.cutting(3) - x.cutting(4), x.cutting(5));
        check.due("SHOWS the end", x.cutting(7), x.cutting(2) == 0 && x.cutting(3) == x.cutting(4) ? 1 : 0);
        if (x.cutting(7) == 1) {
            check.holds("what a CUT SHOWS is so", x.many(10) != WorkEnds.NONE && x.many(10) <= x.cutting(8));
        }
    }
}
