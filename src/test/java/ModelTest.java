/** Long runs of calls by chance (of a fixed seed) on the class and on the plain Model, which must answer alike. */
public final class ModelTest {
    private static final int RUNS = 150;
    private static final int CALLS = 500;

    private static long seed;
    private static WorkEnds x;
    private static Model y;
    private static final StringBuilder told = new StringBuilder();
    private static int wrong = 0;

    private static int upTo(int bound) {
        seed = seed * 6364136223846793005L + 1442695040888963407L;
        return (int) ((seed >>> 33) % bound);
    }

    /** Mostly from 0 to most, now and then just outside. */
    private static int near(int most) {
        return upTo(25) == 0 ? (upTo(2) == 0 ? -1 : most + 1) : upTo(most + 1);
    }

    private static int from(int least, int most) {
        return upTo(25) == 0 ? (upTo(2) == 0 ? least - 1 : most + 1) : least + upTo(most - least + 1);
    }

    private static int node() {
        return near(Math.max(1, y.now.size() - 1));
    }

    private static void same(String call, int got, int want) {
        told.append(call).append(" = ").append(want).append('\n');
        if (got != want || x.status() != y.status()) {
            wrong++;
            System.out.println(call + " answered " + got + " with " + x.status()
                + ", the model " + want + " with " + y.status());
        }
    }

    public static void main(String[] args) {
        for (int run = 0; run < RUNS && wrong == 0; run++) {
            seed = run * 7919L + 17;
            upTo(2);
            x = new WorkEnds();
            y = new Model();
            told.setLength(0);
            boolean eager = run % 3 == 0;
            for (int i = 0; i < CALLS && wrong == 0; i++) {
                if (i == 0 || upTo(120) == 0) {
                    text();
                } else if (upTo(2) == 0) {
                    done(eager);
                } else {
                    asked();
                }
                if (upTo(40) == 0) {
                    lookAtAll();
                }
            }
            if (wrong != 0) {
                System.out.println("run " + run + ", the calls up to there:\n" + told);
            }
        }
        System.out.println(RUNS + " runs, " + wrong + " answers differ");
        if (wrong != 0) {
            System.exit(1);
        }
    }

    /** Many ROWS of one NODE with few units each: WEIGHT runs out, MINTS come, and now and then a 41st ROW. */
    private static String denseText(int nodes) {
        StringBuilder s = new StringBuilder("nodes " + nodes + ";");
        int rows = 18 + upTo(24);
        int a = upTo(3) == 0 ? upTo(nodes) : 0;
        for (int i = 0; i < rows; i++) {
            int from = upTo(8) == 0 ? upTo(nodes) : a;
            int b = (from + 1 + upTo(nodes - 1)) % nodes;
            s.append("plan ").append(from).append(' ').append(1 + upTo(i + 1)).append(' ').append(b).append(" 1;");
        }
        return s.toString();
    }

    private static String text(int nodes, boolean whole) {
        if (upTo(4) == 0) {
            return denseText(nodes);
        }
        StringBuilder s = new StringBuilder("nodes " + nodes + ";");
        int lines = upTo(26);
        for (int i = 0; i < lines; i++) {
            int a = upTo(nodes);
            int b = (a + 1 + upTo(nodes - 1)) % nodes;
            switch (upTo(4)) {
                case 0 -> s.append(" wire ").append(a).append(' ').append(b).append(' ').append(1 + upTo(9));
                case 1 -> s.append("\nboth ").append(a).append(' ').append(b).append(' ').append(1 + upTo(4));
                default -> s.append("plan").append(a).append(' ').append(1 + upTo(upTo(3) == 0 ? 20 : 6)).append(' ')
                    .append(b).append(' ').append(1 + upTo(upTo(4) == 0 ? 20 : 3));
            }
            s.append(';');
        }
        for (int spoil = whole ? 0 : 1 + upTo(2); spoil > 0; spoil--) {
            s.setCharAt(upTo(s.length()), "0123456789 ;\nplanwireboth\u00e9.A".charAt(upTo(28)));
        }
        return s.length() > 580 ? s.substring(0, 580) : s.toString();
    }

    private static void text() {
        String s = text(2 + upTo(7), upTo(4) != 0);
        for (int at = 0; at < s.length(); at += 20) {
            int a = Texts.four(s, at);
            int b = Texts.four(s, at + 4);
            int c = Texts.four(s, at + 8);
            int d = Texts.four(s, at + 12);
            int e = Texts.four(s, at + 16);
            same("feed", x.feed(a, b, c, d, e), y.feed(a, b, c, d, e));
        }
        int n = s.length() + (upTo(15) == 0 ? upTo(60) - 30 : 0);
        same("load(" + n + ") of " + s, x.load(n), y.load(n));
        same("fault(0)", x.fault(0), y.fault(0));
        same("fault(1)", x.fault(1), y.fault(1));
    }

    private static void done(boolean eager) {
        int a = node();
        int b = node();
        switch (upTo(16)) {
            case 0, 1 -> {
                int load = from(1, upTo(8) == 0 ? 200 : upTo(3) == 0 ? 40 : 12);
                same("begin(" + load + ")", x.begin(load), y.begin(load));
            }
            case 2, 3 -> {
                int after = upTo(3) == 0 ? from(1, 200) : from(1, 15);
                int load = upTo(3) == 0 ? from(1, 20) : from(1, 2);
                same("plan(" + a + ", " + after + ", " + b + ", " + load + ")",
                    x.plan(a, after, b, load), y.plan(a, after, b, load));
            }
            case 4 -> {
                int row = upTo(2) == 0 ? near(Math.max(0, y.now.rows.size() - 1)) : near(39);
                same("drop(" + row + ")", x.drop(row), y.drop(row));
            }
            case 5 -> {
                int ticks = from(1, 9);
                same("wires(" + a + ", " + b + ", " + ticks + ")", x.wires(a, b, ticks), y.wires(a, b, ticks));
            }
            case 6 -> same("add()", x.add(), y.add());
            case 7 -> {
                int ticks = near(upTo(3) == 0 ? 50 : 4);
                same("sleep(" + a + ", " + ticks + ")", x.sleep(a, ticks), y.sleep(a, ticks));
            }
            case 8, 9 -> same("cut(" + a + ")", x.cut(a), y.cut(a));
            case 10 -> same("mark()", x.mark(), y.mark());
            case 11 -> {
                if (upTo(3) == 0) {
                    same("back()", x.back(), y.back());
                }
            }
            default -> {
                int many = eager && upTo(12) == 0 ? from(1, 300) : from(1, 6);
                same("tick(" + many + ")", x.tick(many), y.tick(many));
            }
        }
    }

    private static void asked() {
        int a = node();
        int b = node();
        int w = near(3);
        int load = from(1, upTo(8) == 0 ? 200 : 12);
        switch (upTo(26)) {
            case 0 -> same("ends()", x.ends(), y.ends());
            case 1 -> same("tells(" + w + ")", x.tells(w), y.tells(w));
            case 2 -> same("whole(" + a + ")", x.whole(a), y.whole(a));
            case 3 -> {
                int what = near(3);
                same("would(" + load + ", " + w + ", " + what + ")", x.would(load, w, what), y.would(load, w, what));
            }
            case 4 -> {
                int ticks = from(1, 9);
                same("with(" + load + ", " + w + ", " + a + ", " + b + ", " + ticks + ")",
                    x.with(load, w, a, b, ticks), y.with(load, w, a, b, ticks));
            }
            case 5 -> same("margin(" + load + ", " + w + ")", x.margin(load, w), y.margin(load, w));
            case 6 -> same("quickest(" + load + ")", x.quickest(load), y.quickest(load));
            case 7 -> {
                if (upTo(4) == 0) {
                    same("enough()", x.enough(), y.enough());
                }
            }
            default -> look(a, b, w);
        }
    }

    private static void look(int a, int b, int w) {
        int what = near(13);
        int i = near(23);
        switch (upTo(15)) {
            case 0 -> same("many(" + what + ")", x.many(what), y.many(what));
            case 1 -> same("node(" + a + ", " + what + ")", x.node(a, what), y.node(a, what));
            case 2 -> same("wire(" + a + ", " + b + ")", x.wire(a, b), y.wire(a, b));
            case 3 -> same("row(" + i + ", " + what % 5 + ")", x.row(i, what % 5), y.row(i, what % 5));
            case 4 -> same("letter(" + i % 9 + ", " + what % 9 + ")", x.letter(i % 9, what % 9),
                y.letter(i % 9, what % 9));
            case 5 -> same("watch(" + w + ", " + what % 7 + ")", x.watch(w, what % 7), y.watch(w, what % 7));
            case 6 -> same("lag(" + w + ")", x.lag(w), y.lag(w));
            case 7 -> same("bound(" + w + ")", x.bound(w), y.bound(w));
            case 8 -> same("best(" + what % 3 + ")", x.best(what % 3), y.best(what % 3));
            case 9 -> same("weights(" + what % 5 + ")", x.weights(what % 5), y.weights(what % 5));
            case 10 -> same("last(" + what % 5 + ")", x.last(what % 5), y.last(what % 5));
            case 11 -> same("ledger(" + a + ", " + b + ", " + what % 5 + ")", x.ledger(a, b, what % 5),
                y.ledger(a, b, what % 5));
            case 12 -> same("cutting(" + what % 10 + ")", x.cutting(what % 10), y.cutting(what % 10));
            case 13 -> same("recorded(" + a + ", " + what % 4 + ")", x.recorded(a, what % 4),
                y.recorded(a, what % 4));
            default -> same("event(" + i + ", " + what % 4 + ")", x.event(i, what % 4), y.event(i, what % 4));
        }
    }

    /** All that there is, on both: so no part of the state can differ for long without being seen. */
    private static void lookAtAll() {
        for (int what = 0; what < 12; what++) {
            same("many(" + what + ")", x.many(what), y.many(what));
        }
        for (int a = 0; a < 8; a++) {
            for (int what = 0; what < 14; what++) {
                same("node(" + a + ", " + what + ")", x.node(a, what), y.node(a, what));
                if (what < 8) {
                    same("wire(" + a + ", " + what + ")", x.wire(a, what), y.wire(a, what));
                }
                if (what < 3) {
                    same("recorded(" + a + ", " + what + ")", x.recorded(a, what), y.recorded(a, what));
                }
                for (int b = 0; what < 4 && b < 8; b++) {
                    same("ledger(" + a + ", " + b + ", " + what + ")", x.ledger(a, b, what), y.ledger(a, b, what));
                }
            }
        }
        for (int w = 0; w < 4; w++) {
            for (int what = 0; what < 6; what++) {
                same("watch(" + w + ", " + what + ")", x.watch(w, what), y.watch(w, what));
            }
            same("lag(" + w + ")", x.lag(w), y.lag(w));
            same("bound(" + w + ")", x.bound(w), y.bound(w));
            same("weights(" + w + ")", x.weights(w), y.weights(w));
            same("last(" + w + ")", x.last(w), y.last(w));
            same("best(" + w + ")", x.best(w), y.best(w));
        }
        for (int i = 0; i < y.now.way.size() + 1; i++) {
            for (int what = 0; what < 8; what++) {
                same("letter(" + i + ", " + what + ")", x.letter(i, what), y.letter(i, what));
            }
        }
        for (int i = 0; i < 40; i++) {
            for (int what = 0; what < 4; what++) {
                same("row(" + i + ", " + what + ")", x.row(i, what), y.row(i, what));
                same("event(" + i + ", " + what + ")", x.event(i, what), y.event(i, what));
            }
        }
        for (int what = 0; what < 9; what++) {
            same("cutting(" + what + ")", x.cutting(what), y.cutting(what));
        }
    }
}
