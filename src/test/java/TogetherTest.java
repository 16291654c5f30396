import java.util.List;

/**
 * What holds where several of the document's sentences meet: after a TEXT, work that goes on, ROWS, WIRES and NODES that
 * changed while it did, sleepers, CUTS, and MARKS taken back. No answer is written down here: each is held against what
 * the class itself does on another way to the same place.
 */
public final class TogetherTest {
    private static final Check check = new Check();
    private static final int NONE = WorkEnds.NONE;
    private static final int RUNS = 200;

    public static void main(String[] args) {
        for (int run = 0; run < RUNS; run++) {
            Story s = Story.of(run, true);
            endsAsSaid(s);
            tellsAsSaid(s);
            wholeAsSaid(s);
            wouldAsSaid(s);
            enoughIsTheLeast(s);
            paperLeavesAll(s);
            backIsAsIfNothingWas(s, run);
            tickByTick(s, run);
            textIsAsTheCalls(run);
            textEndsAllButMarks(s, run);
            workBeginsAnew(s, run);
            othersStayOut(s, run);
        }
        check.end();
    }

    /** ENDS: TRUTH in so many TICKS, and not one earlier. */
    private static void endsAsSaid(Story s) {
        WorkEnds x = s.played();
        int now = x.many(2);
        int ticks = x.ends();
        if (x.many(10) != NONE) {
            check.due("ends() behind TRUTH", ticks, 0);
            return;
        }
        go(x, ticks - 1);
        check.due("TRUTH ahead of ends()", x.many(10), NONE);
        x.tick(1);
        check.due("TRUTH as ends() said", x.many(10), now + ticks);
    }

    private static void go(WorkEnds x, int ticks) {
        for (int left = ticks; left > 0; left -= 300) {
            x.tick(Math.min(left, 300));
        }
    }

    private static void tellsAsSaid(Story s) {
        for (int w = 0; w < 4; w++) {
            WorkEnds x = s.played();
            int now = x.many(2);
            int ticks = x.tells(w);
            if (x.watch(w, 0) != NONE) {
                check.due("tells(" + w + ") of one that has", ticks, 0);
                continue;
            }
            go(x, ticks - 1);
            check.due("TOLD ahead of tells(" + w + ")", x.watch(w, 0), NONE);
            x.tick(1);
            check.due("TOLD as tells(" + w + ") said", x.watch(w, 0), now + ticks);
            check.holds("TRUTH is by then", x.many(10) != NONE && x.many(10) <= x.watch(w, 0));
            check.due("lag(" + w + ")", x.lag(w), x.watch(w, 0) - x.many(10));
        }
    }

    private static void wholeAsSaid(Story s) {
        int nodes = s.played().many(0);
        for (int i = 0; i < nodes; i++) {
            WorkEnds x = s.played();
            int now = x.many(2);
            int ticks = x.whole(i);
            int why = x.status();
            x.cut(i);
            if (ticks == NONE) {
                check.due("why whole(" + i + ") is NONE", why, 8);
                go(x, 2000);
                check.due("WHOLE though it does not come to that", x.cutting(1), 0);
                continue;
            }
            check.holds("whole(" + i + ") is 1 at least", ticks >= 1);
            go(x, ticks - 1);
            check.due("WHOLE ahead of whole(" + i + ")", x.cutting(8), NONE);
            x.tick(1);
            check.due("WHOLE as whole(" + i + ") said", x.cutting(8), now + ticks);
            check.due("all are RED", x.cutting(0), (1 << nodes) - 1);
        }
    }

    /** What would come if work BEGAN, held against a twin in which it BEGINS. */
    private static void wouldAsSaid(Story s) {
        WorkEnds x = s.played();
        int load = 7;
        for (int w = 0; w < 4; w++) {
            int truth = x.would(load, w, 0);
            if (x.status() == 6) {
                WorkEnds y = s.played();
                check.refused(y, "begin() while work goes on", y.begin(load), 6);
                return;
            }
            int told = x.would(load, w, 1);
            WorkEnds y = s.played();
            int now = y.begin(load);
            go(y, told);
            check.due("TRUTH as would() said", y.many(10) - now, truth);
            check.due("TOLD as would() said", y.watch(w, 0) - now, told);
            check.due("LAG as would() said", y.lag(w), x.would(load, w, 2));
            check.due("SIGNALS as would() said", y.watch(w, 1), x.would(load, w, 3));
            check.due("margin()", x.margin(load, w), y.bound(w) - y.lag(w));
            WorkEnds z = s.played();
            z.wires(1, 0, 9);
            z.begin(load);
            int late = x.with(load, w, 1, 0, 9);
            go(z, z.tells(w));
            check.due("LAG as with() said", z.lag(w), late);
        }
        WorkEnds y = s.played();
        y.begin(load);
        for (int w = 0; w < 4; w++) {
            go(y, y.tells(w));
        }
        check.due("quickest()", x.quickest(load), y.best(0));
    }

    private static int sentWith(Story s, int load) {
        WorkEnds x = s.played();
        x.begin(load);
        go(x, x.ends());
        return x.many(8);
    }

    private static void enoughIsTheLeast(Story s) {
        WorkEnds x = s.played();
        int enough = x.enough();
        if (enough == NONE) {
            check.due("why enough() is NONE", x.status(), 6);
            check.holds("work goes on", x.many(3) != 0 || x.many(6) != 0);
            return;
        }
        int all = sentWith(s, 200);
        check.due("SENT with enough()", sentWith(s, enough), all);
        check.holds("with less fewer are SENT", enough == 1 || sentWith(s, enough - 1) < all);
    }

    private static void paperLeavesAll(Story s) {
        WorkEnds x = s.played();
        x.ends();
        x.tells(0);
        x.tells(3);
        x.whole(1);
        x.would(9, 2, 1);
        x.with(200, 1, 0, 1, 5);
        x.margin(3, 0);
        x.quickest(40);
        x.enough();
        same("what was said ON PAPER", x, s.played());
    }

    private static void lists(String when, List<String> got, List<String> due) {
        check.due("how much is seen, " + when, got.size(), due.size());
        for (int i = 0; i < Math.min(got.size(), due.size()); i++) {
            if (!got.get(i).equals(due.get(i))) {
                check.holds(when + ": " + got.get(i) + ", due is " + due.get(i), false);
            }
        }
    }

    /** Without what a line of these tells of: the tape's FAULT, MARKS, EVENTS. */
    private static List<String> without(List<String> seen, String... heads) {
        seen.removeIf(line -> {
            for (String head : heads) {
                if (line.startsWith(head)) {
                    return true;
                }
            }
            return false;
        });
        return seen;
    }

    /** A MARK, much that is done then (a TEXT, too), and back: only the tape and the FAULT tell of it. */
    private static void backIsAsIfNothingWas(Story s, int run) {
        WorkEnds x = s.played();
        Story more = new Story(run + 5000);
        more.change(12, false);
        if (run % 2 == 0) {
            more.text(more.text());
        }
        more.begin();
        more.change(8, false);
        int marks = x.mark();
        more.play(x);
        check.due("back()", x.back(), marks - 1);
        WorkEnds y = s.played();
        same("behind back()", x, y, "fault(");
        Story on = new Story(run + 9000);
        on.change(10, false);
        on.play(x);
        on.play(y);
        same("some steps behind back()", x, y, "fault(");
    }

    /** All that can be seen of both, but for the lines that begin so. */
    private static void same(String when, WorkEnds x, WorkEnds y, String... heads) {
        for (int part = 0; part < 5; part++) {
            lists(when, without(Looks.part(x, part), heads), without(Looks.part(y, part), heads));
        }
    }

    private static void tickByTick(Story s, int run) {
        WorkEnds x = s.played();
        WorkEnds y = s.played();
        int many = 1 + run % 40;
        x.tick(many);
        for (int i = 0; i < many; i++) {
            y.tick(1);
        }
        same("tick(" + many + ")", x, y);
    }

    /** A TEXT does what add(), wires() and plan() do one by one. */
    private static void textIsAsTheCalls(int run) {
        Story s = new Story(run + 2000);
        String text = s.text();
        s.text(text);
        WorkEnds x = s.played();
        WorkEnds y = built(x);
        same("a TEXT and calls: " + text, x, y, "fault(");
        Story on = new Story(run + 3000);
        on.begin();
        on.change(20, true);
        on.play(x);
        on.play(y);
        same("some steps behind a TEXT: " + text, x, y, "fault(");
    }

    /** A new object with the NODES, WIRES and ROWS of another. */
    private static WorkEnds built(WorkEnds x) {
        WorkEnds y = new WorkEnds();
        int nodes = x.many(0);
        for (int i = 2; i < nodes; i++) {
            check.due("add()", y.add(), i);
        }
        for (int a = 0; a < nodes; a++) {
            for (int b = 0; b < nodes; b++) {
                if (a != b && x.wire(a, b) != 1) {
                    y.wires(a, b, x.wire(a, b));
                }
            }
        }
        int rows = x.many(1);
        for (int i = 0; i < rows; i++) {
            check.due("plan()", y.plan(x.row(i, 0), x.row(i, 1), x.row(i, 2), x.row(i, 3)), i);
        }
        return y;
    }

    /** With a new TEXT all is as on a new object, but for the MARKS. */
    private static void textEndsAllButMarks(Story s, int run) {
        WorkEnds x = s.played();
        int marks = x.many(11);
        // A TEXT is read into what goes ON PAPER, so let there be something on it.
        x.ends();
        Story on = new Story(run + 4000);
        on.text(on.text());
        on.begin();
        on.change(20, false);
        WorkEnds y = new WorkEnds();
        on.play(x, 0);
        on.play(y, 0);
        same("a TEXT behind much", x, y, "many(11)");
        for (int i = 1; i < on.size(); i++) {
            on.play(x, i);
            on.play(y, i);
        }
        same("some steps behind a TEXT behind much", x, y, "many(11)");
        check.due("MARKS", x.many(11), marks);
    }

    /** As work BEGINS nothing of the work ahead matters any more, but for the EVENTS. */
    private static void workBeginsAnew(Story s, int run) {
        WorkEnds x = s.played();
        x.ends();
        WorkEnds look = s.played();
        WorkEnds y = built(look);
        if (look.many(2) > 0) {
            go(y, look.many(2));
        }
        for (int i = 0; i < look.many(0); i++) {
            y.sleep(i, look.node(i, 12));
        }
        if (x.begin(5) == NONE) {
            check.due("begin() while work goes on", x.status(), 6);
            return;
        }
        y.begin(5);
        String[] heads = {"fault(", "many(11)", "event("};
        same("work BEGAN behind other work", x, y, heads);
        Story on = new Story(run + 6000);
        on.change(20, false);
        on.play(x);
        on.play(y);
        same("some steps of work behind other work", x, y, heads);
    }

    /** Another object that is used meanwhile changes nothing. */
    private static void othersStayOut(Story s, int run) {
        Story other = Story.of(run + 700, true);
        WorkEnds x = new WorkEnds();
        WorkEnds z = new WorkEnds();
        for (int i = 0; i < Math.max(s.size(), other.size()); i++) {
            if (i < s.size()) {
                s.play(x, i);
            }
            if (i < other.size()) {
                other.play(z, i);
                z.ends();
            }
        }
        same("two objects by turns", x, s.played());
        same("two objects by turns, the other one", z, other.played());
    }
}
