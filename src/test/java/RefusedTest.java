import java.util.ArrayList;
import java.util.List;
import java.util.function.Consumer;
import java.util.function.Supplier;

/**
 * Section 5: for each call, in seven states, each STATUS that can hold, alone and with others at once (the first of them
 * is due), at both sides of every bound; and that a call which is refused, which tells what there is, or which goes
 * ON PAPER, changes nothing.
 */
public final class RefusedTest {
    private static final Check check = new Check();
    private static final int NONE = WorkEnds.NONE;
    private static final int LEAST = Integer.MIN_VALUE;
    private static final int MOST = Integer.MAX_VALUE;
    /** So that what was done ahead, a batch and a look keep within 512 calls. */
    private static final int BATCH = 100;

    interface Call {
        int on(WorkEnds x);
    }

    /** A call, the STATUS that is due, and whether it may change more than that with STATUS 0. */
    record Case(String name, Call call, int status, boolean changes) {
    }

    /** How an object comes to be as it is, and what is so of it then (gone through by hand). */
    static final class Scene {
        final String name;
        final Supplier<WorkEnds> made;
        int nodes = 2;
        int rows;
        int letters;
        int events;
        int marks;
        boolean began;
        boolean working;
        boolean signals;
        boolean cut;
        int red;
        int told;
        boolean last;
        boolean never;
        int tape;
        boolean good;

        Scene(String name, Supplier<WorkEnds> made) {
            this.name = name;
            this.made = made;
        }
    }

    public static void main(String[] args) {
        for (Scene s : List.of(fresh(), atWork(), onlyWork(), onlySignals(), heldSignals(), allTold(), full())) {
            isAsSaid(s);
            for (List<Case> cases : List.of(whatThereIs(s), ofNodes(s), whatIsDone(s), plans(s), onPaper(s), withs(s))) {
                answersAreDue(s, cases);
                nothingChanges(s, cases);
            }
            aFaultChangesTheTapeAlone(s);
        }
        noStatusOfTheirOwn();
        check.end();
    }

    // ---- the states

    private static Scene fresh() {
        return new Scene("a new object", WorkEnds::new);
    }

    /** NODES 0, 1, 2 are BUSY, an ACK and a WORK LETTER are on their way; a CUT, two MARKS, a FAULT, half a TEXT. */
    private static Scene atWork() {
        Scene s = new Scene("at work", () -> {
            WorkEnds x = Texts.of("nodes 3;both 0 1 2;plan 0 1 1 9;plan 0 2 2 3;plan 1 1 2 1;plan 0 4 1 1;");
            Texts.load(x, "nodes 3;wire 0 3 1;");
            x.tick(3);
            x.mark();
            x.begin(5);
            x.tick(4);
            x.cut(2);
            x.sleep(2, 7);
            x.mark();
            Texts.feed(x, "nodes 4;plan 3 1 0 1");
            return x;
        });
        s.nodes = 3;
        s.rows = 4;
        s.letters = 2;
        s.events = 3;
        s.marks = 2;
        s.began = true;
        s.working = true;
        s.signals = true;
        s.cut = true;
        s.red = 4;
        s.tape = 20;
        return s;
    }

    /** All are IDLE, one WORK LETTER is on its way; NODE 1 SLEEPS, and has the TOKEN and the VISITOR. */
    private static Scene onlyWork() {
        Scene s = new Scene("a WORK LETTER on its way", () -> {
            WorkEnds x = new WorkEnds();
            x.plan(0, 1, 1, 2);
            x.wires(0, 1, 9);
            x.begin(2);
            x.tick(1);
            x.wires(0, 1, 1);
            x.sleep(1, 50);
            x.tick(2);
            return x;
        });
        s.rows = 1;
        s.letters = 1;
        s.events = 4;
        s.began = true;
        s.working = true;
        return s;
    }

    /** TRUTH is, and each watch has a SIGNAL on its way. */
    private static Scene onlySignals() {
        Scene s = new Scene("SIGNALS on their way", () -> {
            WorkEnds x = new WorkEnds();
            x.plan(0, 2, 1, 2);
            x.begin(3);
            x.tick(4);
            Texts.feed(x, "nodes 2;nodes 2;");
            x.load(16);
            x.mark();
            Texts.feed(x, "nodes 7;            ");
            return x;
        });
        s.rows = 1;
        s.letters = 4;
        s.events = 7;
        s.marks = 1;
        s.began = true;
        s.signals = true;
        s.last = true;
        s.tape = 20;
        s.good = true;
        return s;
    }

    /** TRUTH is, no LETTER is on its way, but NODE 1, who has the TOKEN and the VISITOR, SLEEPS. */
    private static Scene heldSignals() {
        Scene s = new Scene("SIGNALS held by a sleeper", () -> {
            WorkEnds x = new WorkEnds();
            x.sleep(1, 50);
            x.begin(1);
            x.cut(1);
            x.tick(2);
            return x;
        });
        s.events = 7;
        s.began = true;
        s.cut = true;
        s.red = 2;
        s.told = 1 | 4;
        return s;
    }

    /** All have TOLD; the ROOT was the last to be IDLE, and no LETTER had made it BUSY. */
    private static Scene allTold() {
        Scene s = new Scene("all have TOLD", () -> {
            WorkEnds x = new WorkEnds();
            x.plan(1, 200, 0, 20);
            x.begin(9);
            x.tick(300);
            x.mark();
            x.cut(0);
            return x;
        });
        s.rows = 1;
        s.events = 10;
        s.marks = 1;
        s.began = true;
        s.cut = true;
        s.red = 1;
        s.told = 15;
        s.never = true;
        return s;
    }

    /** 8 NODES, 40 ROWS, 24 EVENTS and more, 3 MARKS, a full tape. */
    private static Scene full() {
        Scene s = new Scene("all full", () -> {
            StringBuilder text = new StringBuilder("nodes 8;");
            for (int i = 0; i < 40; i++) {
                text.append("plan " + i % 8 + " " + (1 + i / 8) + " " + (i + 1) % 8 + " " + (1 + i % 3) + ";");
            }
            WorkEnds x = Texts.of(text.toString());
            x.mark();
            x.begin(3);
            x.tick(2);
            x.cut(0);
            x.mark();
            x.tick(300);
            x.mark();
            Texts.feed(x, "nodes 2;" + " ".repeat(592));
            return x;
        });
        s.nodes = 8;
        s.rows = 40;
        s.events = 24;
        s.marks = 3;
        s.began = true;
        s.cut = true;
        s.red = 255;
        s.told = 15;
        s.last = true;
        s.never = true;
        s.tape = 600;
        s.good = true;
        return s;
    }

    private static void isAsSaid(Scene s) {
        WorkEnds x = s.made.get();
        check.due("NODES: " + s.name, x.many(0), s.nodes);
        check.due("ROWS: " + s.name, x.many(1), s.rows);
        check.due("LETTERS: " + s.name, x.many(6) + x.many(7), s.letters);
        check.due("SIGNALS: " + s.name, x.many(7) > 0 ? 1 : 0, s.signals ? 1 : 0);
        check.due("MARKS: " + s.name, x.many(11), s.marks);
        check.due("work BEGAN: " + s.name, x.many(9) >= 0 ? 1 : 0, s.began ? 1 : 0);
        check.due("work goes on: " + s.name, x.many(3) + x.many(6) > 0 ? 1 : 0, s.working ? 1 : 0);
        check.due("TRUTH: " + s.name, x.many(10) >= 0 ? 1 : 0, s.began && !s.working ? 1 : 0);
        for (int w = 0; w < 4; w++) {
            check.due("WATCH " + w + " has TOLD: " + s.name, x.watch(w, 0) >= 0 ? 1 : 0, s.told >> w & 1);
        }
        int red = 0;
        for (int i = 0; i < s.nodes; i++) {
            red |= x.node(i, 13) << i;
        }
        check.due("RED: " + s.name, red, s.red);
    }

    // ---- how cases are looked at

    private static void answersAreDue(Scene s, List<Case> cases) {
        for (Case c : cases) {
            WorkEnds x = s.made.get();
            int got = c.call.on(x);
            String name = c.name + ": " + s.name;
            check.due("status() after " + name, x.status(), c.status);
            if (c.status != 0) {
                check.due(name, got, NONE);
            }
        }
    }

    /** Twins, made alike: one of them gets all calls of a batch that may change nothing, then they are compared. */
    private static void nothingChanges(Scene s, List<Case> cases) {
        List<Case> quiet = new ArrayList<>();
        for (Case c : cases) {
            if ((c.status != 0 || !c.changes) && c.status != 9) {
                quiet.add(c);
            }
        }
        for (int at = 0; at < quiet.size(); at += BATCH) {
            List<Case> batch = quiet.subList(at, Math.min(at + BATCH, quiet.size()));
            for (int part = 0; part < Looks.PARTS; part++) {
                twins(s, batch, part, "then", x -> { });
            }
            twins(s, batch, 0, "a TICK later", x -> x.tick(1));
            twins(s, batch, 3, "a TICK later", x -> x.tick(1));
            twins(s, batch, 0, "70 TICKS later", x -> x.tick(70));
            twins(s, batch, 2, "70 TICKS later", x -> x.tick(70));
            twins(s, batch, 4, "70 TICKS later", x -> x.tick(70));
            for (int backs = 1; backs <= s.marks; backs++) {
                int many = backs;
                Consumer<WorkEnds> back = x -> {
                    for (int i = 0; i < many; i++) {
                        x.back();
                    }
                };
                twins(s, batch, 0, backs + " MARKS back", back);
                twins(s, batch, 3, backs + " MARKS back", back);
            }
        }
    }

    private static void twins(Scene s, List<Case> batch, int part, String when, Consumer<WorkEnds> behind) {
        WorkEnds called = s.made.get();
        WorkEnds twin = s.made.get();
        for (Case c : batch) {
            c.call.on(called);
        }
        behind.accept(called);
        behind.accept(twin);
        List<String> got = Looks.part(called, part);
        List<String> want = Looks.part(twin, part);
        String name = batch.get(0).name + " and what follows, " + s.name + ", " + when;
        check.due("how much is seen behind " + name, got.size(), want.size());
        for (int i = 0; i < Math.min(got.size(), want.size()); i++) {
            check.holds(got.get(i) + ", without " + name + ": " + want.get(i), got.get(i).equals(want.get(i)));
        }
    }

    /** "load() with 9: but the tape and what fault() tells". */
    private static void aFaultChangesTheTapeAlone(Scene s) {
        for (int part = 0; part < Looks.PARTS - 1; part++) {
            for (int later = 0; later < 2; later++) {
                WorkEnds called = s.made.get();
                WorkEnds twin = s.made.get();
                int kind = called.load(0) == NONE ? called.fault(0) : NONE;
                check.due("fault(0) of no TEXT, " + s.name, kind, 2);
                check.due("fault(1) of no TEXT, " + s.name, called.fault(1), 0);
                if (later == 1) {
                    called.tick(9);
                    twin.tick(9);
                }
                List<String> got = Looks.part(called, part);
                List<String> want = Looks.part(twin, part);
                for (int i = 0; i < want.size(); i++) {
                    check.holds(got.get(i) + ", ahead of load(0): " + want.get(i) + ", " + s.name,
                        want.get(i).startsWith("fault") || got.get(i).equals(want.get(i)));
                }
                called.load(0);
                check.due("bytes on the tape, " + s.name, called.feed(32, 32, 32, 32, 32), 20);
            }
        }
    }

    // ---- which STATUS holds

    /** The first that holds; 0 stands for one that does not. */
    private static int first(int... those) {
        int found = 0;
        for (int status : those) {
            if (status != 0 && (found == 0 || status < found)) {
                found = status;
            }
        }
        return found;
    }

    private static int out(int number, int least, int most) {
        return number < least || number > most ? 1 : 0;
    }

    private static int noNode(Scene s, int... nodes) {
        for (int node : nodes) {
            if (node < 0 || node >= s.nodes) {
                return 2;
            }
        }
        return 0;
    }

    private static int noWatch(int watch) {
        return watch < 0 || watch > 3 ? 2 : 0;
    }

    private static int same(int a, int b) {
        return a == b ? 4 : 0;
    }

    private static int unless(boolean holds, int status) {
        return holds ? 0 : status;
    }

    /** Both sides of both bounds, and what is far out. */
    private static int[] around(int least, int most) {
        return new int[] {LEAST, least - 2, least - 1, least, most, most + 1, most + 2, MOST};
    }

    private static int[] close(int least, int most) {
        return new int[] {least - 1, least, most, most + 1};
    }

    private static boolean has(int bits, int i) {
        return i >= 0 && i < 8 && (bits >> i & 1) == 1;
    }

    // ---- the calls

    private static List<Case> whatThereIs(Scene s) {
        List<Case> all = new ArrayList<>();
        for (int what : around(0, 11)) {
            all.add(new Case("many(" + what + ")", x -> x.many(what), out(what, 0, 11), false));
        }
        for (int what : around(0, 3)) {
            all.add(new Case("weights(" + what + ")", x -> x.weights(what), out(what, 0, 3), false));
            all.add(new Case("last(" + what + ")", x -> x.last(what), first(out(what, 0, 3), unless(s.last, 5)), false));
        }
        for (int what : around(0, 1)) {
            all.add(new Case("best(" + what + ")", x -> x.best(what),
                first(out(what, 0, 1), unless(s.told != 0, 5)), false));
        }
        for (int what : around(0, 8)) {
            all.add(new Case("cutting(" + what + ")", x -> x.cutting(what),
                first(out(what, 0, 8), unless(s.cut, 5)), false));
        }
        for (int i : new int[] {LEAST, -1, 0, s.rows - 1, s.rows, 39, 40, MOST}) {
            for (int what : around(0, 3)) {
                all.add(new Case("row(" + i + ", " + what + ")", x -> x.row(i, what),
                    first(out(i, 0, MOST), out(what, 0, 3), unless(i < s.rows, 5)), false));
            }
        }
        for (int i : new int[] {LEAST, -1, 0, s.letters - 1, s.letters, s.letters + 1, MOST}) {
            for (int what : around(0, 7)) {
                all.add(new Case("letter(" + i + ", " + what + ")", x -> x.letter(i, what),
                    first(out(i, 0, MOST), out(what, 0, 7), unless(i < s.letters, 5)), false));
            }
        }
        for (int i : new int[] {LEAST, -1, 0, s.events - 1, s.events, s.events + 1, 22, 23, 24, 25, MOST}) {
            for (int what : around(0, 2)) {
                all.add(new Case("event(" + i + ", " + what + ")", x -> x.event(i, what),
                    first(out(i, 0, 23), out(what, 0, 2), unless(i < s.events, 5)), false));
            }
        }
        return all;
    }

    private static List<Case> ofNodes(Scene s) {
        List<Case> all = new ArrayList<>();
        for (int a : around(0, s.nodes - 1)) {
            for (int what : around(0, 13)) {
                all.add(new Case("node(" + a + ", " + what + ")", x -> x.node(a, what),
                    first(out(what, 0, 13), noNode(s, a)), false));
            }
            for (int what : around(0, 2)) {
                all.add(new Case("recorded(" + a + ", " + what + ")", x -> x.recorded(a, what),
                    first(out(what, 0, 2), noNode(s, a), unless(has(s.red, a), 5)), false));
            }
            for (int b : around(0, s.nodes - 1)) {
                all.add(new Case("wire(" + a + ", " + b + ")", x -> x.wire(a, b),
                    first(noNode(s, a, b), same(a, b)), false));
                for (int what : close(0, 3)) {
                    all.add(new Case("ledger(" + a + ", " + b + ", " + what + ")", x -> x.ledger(a, b, what),
                        first(out(what, 0, 3), noNode(s, a, b), same(a, b)), false));
                }
            }
        }
        for (int w : around(0, 3)) {
            for (int what : around(0, 5)) {
                all.add(new Case("watch(" + w + ", " + what + ")", x -> x.watch(w, what),
                    first(out(what, 0, 5), noWatch(w)), false));
            }
            all.add(new Case("lag(" + w + ")", x -> x.lag(w), first(noWatch(w), unless(has(s.told, w), 5)), false));
            all.add(new Case("bound(" + w + ")", x -> x.bound(w), noWatch(w), false));
        }
        for (int w = 1; w < 3; w++) {
            int watch = w;
            all.add(new Case("lag(" + w + ")", x -> x.lag(watch), unless(has(s.told, w), 5), false));
        }
        return all;
    }

    private static List<Case> whatIsDone(Scene s) {
        List<Case> all = new ArrayList<>();
        for (int n : new int[] {LEAST, -1, s.tape + 1, s.tape + 2, 601, MOST}) {
            all.add(new Case("load(" + n + ")", x -> x.load(n), 1, true));
        }
        all.add(new Case("load(0)", x -> x.load(0), 9, true));
        all.add(new Case("load(" + s.tape + ")", x -> x.load(s.tape), unless(s.good, 9), true));
        for (int load : around(1, 200)) {
            all.add(new Case("begin(" + load + ")", x -> x.begin(load),
                first(out(load, 1, 200), unless(!s.working, 6)), true));
        }
        for (int row : new int[] {LEAST, -1, 0, s.rows - 1, s.rows, 39, 40, MOST}) {
            all.add(new Case("drop(" + row + ")", x -> x.drop(row), first(out(row, 0, MOST), unless(row < s.rows, 5)),
                true));
        }
        for (int many : around(1, 300)) {
            all.add(new Case("tick(" + many + ")", x -> x.tick(many), out(many, 1, 300), true));
        }
        all.add(new Case("add()", x -> x.add(),
            first(unless(s.nodes < 8, 3), unless(!s.signals, 5), unless(!s.working, 6)), true));
        all.add(new Case("mark()", x -> x.mark(), unless(s.marks < 3, 3), true));
        all.add(new Case("back()", x -> x.back(), unless(s.marks > 0, 5), true));
        for (int a : around(0, s.nodes - 1)) {
            all.add(new Case("cut(" + a + ")", x -> x.cut(a), first(noNode(s, a), unless(s.began, 7)), true));
            for (int ticks : around(0, 50)) {
                all.add(new Case("sleep(" + a + ", " + ticks + ")", x -> x.sleep(a, ticks),
                    first(out(ticks, 0, 50), noNode(s, a)), true));
            }
            for (int b : around(0, s.nodes - 1)) {
                for (int ticks : around(1, 9)) {
                    all.add(new Case("wires(" + a + ", " + b + ", " + ticks + ")", x -> x.wires(a, b, ticks),
                        first(out(ticks, 1, 9), noNode(s, a, b), same(a, b)), true));
                }
            }
        }
        return all;
    }

    private static List<Case> plans(Scene s) {
        List<Case> all = new ArrayList<>();
        for (int a : close(0, s.nodes - 1)) {
            for (int b : close(0, s.nodes - 1)) {
                for (int after : around(1, 200)) {
                    for (int load : around(1, 20)) {
                        all.add(new Case("plan(" + a + ", " + after + ", " + b + ", " + load + ")",
                            x -> x.plan(a, after, b, load), first(out(after, 1, 200), out(load, 1, 20),
                                noNode(s, a, b), unless(s.rows < 40, 3), same(a, b)), true));
                    }
                }
            }
        }
        return all;
    }

    private static List<Case> onPaper(Scene s) {
        List<Case> all = new ArrayList<>();
        all.add(new Case("ends()", x -> x.ends(), unless(s.began, 7), false));
        all.add(new Case("enough()", x -> x.enough(), unless(!s.working, 6), false));
        for (int w : around(0, 3)) {
            all.add(new Case("tells(" + w + ")", x -> x.tells(w), first(noWatch(w), unless(s.began, 7)), false));
        }
        for (int a : around(0, s.nodes - 1)) {
            all.add(new Case("whole(" + a + ")", x -> x.whole(a),
                first(noNode(s, a), unless(s.began, 7), unless(!s.never, 8)), false));
        }
        for (int load : around(1, 200)) {
            int bad = out(load, 1, 200);
            int goesOn = unless(!s.working, 6);
            all.add(new Case("quickest(" + load + ")", x -> x.quickest(load), first(bad, goesOn), false));
            for (int w : around(0, 3)) {
                all.add(new Case("margin(" + load + ", " + w + ")", x -> x.margin(load, w),
                    first(bad, noWatch(w), goesOn), false));
                for (int what : around(0, 3)) {
                    all.add(new Case("would(" + load + ", " + w + ", " + what + ")", x -> x.would(load, w, what),
                        first(bad, out(what, 0, 3), noWatch(w), goesOn), false));
                }
            }
        }
        return all;
    }

    private static List<Case> withs(Scene s) {
        List<Case> all = new ArrayList<>();
        for (int load : close(1, 200)) {
            for (int ticks : close(1, 9)) {
                for (int w : close(0, 3)) {
                    for (int a : close(0, s.nodes - 1)) {
                        for (int b : close(0, s.nodes - 1)) {
                            all.add(new Case("with(" + load + ", " + w + ", " + a + ", " + b + ", " + ticks + ")",
                                x -> x.with(load, w, a, b, ticks), first(out(load, 1, 200), out(ticks, 1, 9),
                                    noWatch(w), noNode(s, a, b), same(a, b), unless(!s.working, 6)), false));
                        }
                    }
                }
            }
        }
        return all;
    }

    /** "status(), feed(), fault() have none": they leave that of the call ahead, answered or not. */
    private static void noStatusOfTheirOwn() {
        WorkEnds x = new WorkEnds();
        Call[] refused = {y -> y.load(-1), y -> y.node(2, 0), y -> y.wire(0, 0), y -> y.back(), y -> y.ends(),
            y -> y.load(0), y -> y.many(0)};
        int[] due = {1, 2, 4, 5, 7, 9, 0};
        for (int i = 0; i < due.length; i++) {
            refused[i].on(x);
            check.due("status()", x.status(), due[i]);
            check.due("status() after status()", x.status(), due[i]);
            x.feed(0, 0, 0, 0, 0);
            check.due("status() after feed()", x.status(), due[i]);
            for (int what : around(0, 1)) {
                x.fault(what);
                check.due("status() after fault(" + what + ")", x.status(), due[i]);
            }
        }
        while (x.feed(0, 0, 0, 0, 0) != NONE) {
            check.due("status() after feed()", x.status(), 0);
        }
        check.due("status() after feed() that was too much", x.status(), 0);
        x.wire(0, 0);
        x.feed(0, 0, 0, 0, 0);
        check.due("status() after feed() that was too much", x.status(), 4);
    }
}
