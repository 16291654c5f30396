import java.lang.management.ManagementFactory;
import java.lang.reflect.Method;
import java.util.ArrayList;
import java.util.Comparator;
import java.util.List;

/** What a run makes stays small, the longest rows of LETTERS are kept whole, and no call throws, whatever it is given. */
public final class RoomTest {
    private static final Check check = new Check();
    private static long seed = 99;

    private static int upTo(int bound) {
        seed = seed * 6364136223846793005L + 1442695040888963407L;
        return (int) ((seed >>> 33) % bound);
    }

    public static void main(String[] args) throws Exception {
        manyLetters();
        fullRow();
        dearestCalls();
        oddArguments();
        beyond512();
        check.end();
    }

    /** By new ROWS while it works, with slow WIRES, far more LETTERS are on their way than there can be ROWS. */
    private static void manyLetters() {
        WorkEnds x = new WorkEnds();
        x.wires(0, 1, 9);
        x.wires(1, 0, 9);
        for (int i = 0; i < 40; i++) {
            x.plan(0, 1, 1, 1);
        }
        x.begin(200);
        for (int t = 1; t <= 5; t++) {
            x.tick(1);
            for (int i = 0; i < 39; i++) {
                x.drop(0);
                x.plan(0, t + 1, 1, 1 + i % 20);
            }
        }
        int sent = 40 + 4 * 39;
        check.fine(x, "many(6)", x.many(6), sent);
        check.fine(x, "many(8)", x.many(8), sent);
        check.fine(x, "letter(0, 3)", x.letter(0, 3), 5);
        check.fine(x, "the last one's TICKS", x.letter(sent - 1, 3), 9);
        check.fine(x, "the last one's LOAD", x.letter(sent - 1, 4), 1 + 38 % 20);
        check.refused(x, "letter() behind the last", x.letter(sent, 0), 5);
        check.fine(x, "ledger(0, 1, 3)", x.ledger(0, 1, 3), sent);
        check.fine(x, "mark()", x.mark(), 1);
        int ends = x.ends();
        int tells = x.tells(0);
        x.tick(9);
        // The first brings NODE 1 into the TREE, each other one of the first four TICKS an ACK.
        check.fine(x, "many(7)", x.many(7), sent - 1);
        x.tick(300);
        check.fine(x, "back()", x.back(), 0);
        check.fine(x, "ends()", x.ends(), ends);
        check.fine(x, "tells(0)", x.tells(0), tells);
        check.fine(x, "the last one's LOAD", x.letter(sent - 1, 4), 1 + 38 % 20);
    }

    /** A CUT looks at every LETTER: once with just as many as the row has room for, too. */
    private static void fullRow() {
        WorkEnds x = new WorkEnds();
        x.wires(0, 1, 9);
        for (int i = 0; i < 40; i++) {
            x.plan(0, 1, 1, 1);
        }
        x.begin(200);
        for (int t = 1; t <= 9; t++) {
            x.tick(1);
            check.fine(x, "many(6)", x.many(6), 39 + t);
            check.fine(x, "cut(0)", x.cut(0), t);
            check.holds("whole(0)", x.whole(0) > 0);
            x.drop(0);
            x.plan(0, t + 1, 1, 1);
        }
    }

    private static long made() {
        return ((com.sun.management.ThreadMXBean) ManagementFactory.getThreadMXBean())
            .getThreadAllocatedBytes(Thread.currentThread().getId());
    }

    private static void dearestCalls() {
        new WorkEnds().would(200, 3, 3);
        long before = made();
        WorkEnds x = new WorkEnds();
        long object = made() - before;
        check.holds("an object has " + object + " bytes: fewer than 10,000 fields and elements", object < 40000);
        for (int i = 0; i < 6; i++) {
            x.add();
        }
        for (int i = 0; i < 40; i++) {
            x.plan(i % 8, 1 + i, (i + 1) % 8, 20);
        }
        before = made();
        for (int i = 0; i < 450; i++) {
            switch (i % 9) {
                case 0 -> x.would(200, i % 4, 1);
                case 1 -> x.enough();
                case 2 -> x.quickest(200);
                case 3 -> x.with(200, 3, 0, 1, 9);
                case 4 -> x.margin(200, 1);
                case 5 -> x.mark();
                case 6 -> x.back();
                case 7 -> x.begin(3);
                default -> x.tick(300);
            }
        }
        check.holds("450 dear calls made " + (made() - before) + " bytes", made() - before < 20000);
    }

    private static List<Method> calls() {
        List<Method> all = new ArrayList<>();
        for (Method m : WorkEnds.class.getDeclaredMethods()) {
            if (java.lang.reflect.Modifier.isPublic(m.getModifiers())) {
                all.add(m);
            }
        }
        all.sort(Comparator.comparing(Method::getName));
        return all;
    }

    private static int odd() {
        switch (upTo(8)) {
            case 0: return Integer.MIN_VALUE + upTo(2);
            case 1: return Integer.MAX_VALUE - upTo(2);
            case 2: return -1 - upTo(3);
            case 3: return upTo(700);
            case 4: return (int) (seed >>> 20);
            default: return upTo(10);
        }
    }

    private static int call(WorkEnds x, Method m) throws Exception {
        Object[] args = new Object[m.getParameterCount()];
        for (int i = 0; i < args.length; i++) {
            args[i] = odd();
        }
        return (Integer) m.invoke(x, args);
    }

    private static void oddArguments() throws Exception {
        List<Method> all = calls();
        for (int run = 0; run < 60; run++) {
            WorkEnds x = new WorkEnds();
            if (run % 2 == 0) {
                Texts.load(x, "nodes " + (2 + upTo(7)) + ";plan 0 1 1 5;plan 1 2 0 3;both 0 1 4;");
                x.begin(1 + upTo(9));
            }
            for (int i = 0; i < 500; i++) {
                Method m = all.get(upTo(all.size()));
                int got = call(x, m);
                int status = x.status();
                check.holds("STATUS within 0 to 9", status >= 0 && status <= 9);
                boolean has = !m.getName().equals("status") && !m.getName().equals("feed") && !m.getName().equals("fault");
                if (has && status != 0) {
                    check.due(m.getName() + " with STATUS " + status, got, WorkEnds.NONE);
                }
            }
        }
    }

    /** What later calls answer is free, but they, too, answer. */
    private static void beyond512() throws Exception {
        WorkEnds x = new WorkEnds();
        List<Method> all = calls();
        x.wires(0, 1, 9);
        for (int round = 0; round < 60; round++) {
            x.begin(200);
            for (int t = 1; t < 190; t++) {
                for (int i = 0; i < 12; i++) {
                    x.plan(0, t, 1, 20);
                    x.plan(1, t, 0, 20);
                }
                x.tick(1);
                while (x.many(1) > 0) {
                    x.drop(0);
                }
            }
            x.tick(300);
            for (int i = 0; i < 100; i++) {
                call(x, all.get(upTo(all.size())));
            }
        }
        check.holds("it still answers", x.status() >= 0);
    }
}
