import java.util.ArrayList;
import java.util.List;

/** A run of calls by chance (of a fixed seed), written down, so that it can be played on any object, step by step. */
final class Story {
    /** A call: which one, and its arguments; or a TEXT to load. */
    private record Step(char call, int a, int b, int c, int d, String text) {
    }

    private final List<Step> steps = new ArrayList<>();
    private long seed;

    Story(long seed) {
        this.seed = seed * 7919L + 29;
        upTo(2);
    }

    int upTo(int bound) {
        seed = seed * 6364136223846793005L + 1442695040888963407L;
        return (int) ((seed >>> 33) % bound);
    }

    int size() {
        return steps.size();
    }

    void play(WorkEnds x) {
        for (int i = 0; i < steps.size(); i++) {
            play(x, i);
        }
    }

    WorkEnds played() {
        WorkEnds x = new WorkEnds();
        play(x);
        return x;
    }

    void play(WorkEnds x, int i) {
        Step s = steps.get(i);
        switch (s.call) {
            case 't' -> x.tick(s.a);
            case 'b' -> x.begin(s.a);
            case 'p' -> x.plan(s.a, s.b, s.c, s.d);
            case 'd' -> x.drop(s.a);
            case 'w' -> x.wires(s.a, s.b, s.c);
            case 'a' -> x.add();
            case 's' -> x.sleep(s.a, s.b);
            case 'c' -> x.cut(s.a);
            case 'm' -> x.mark();
            case 'k' -> x.back();
            default -> Texts.load(x, s.text);
        }
    }

    private void step(char call, int a, int b, int c, int d) {
        steps.add(new Step(call, a, b, c, d, ""));
    }

    void text(String text) {
        steps.add(new Step('l', 0, 0, 0, 0, text));
    }

    String text() {
        int nodes = 2 + upTo(7);
        StringBuilder s = new StringBuilder("nodes " + nodes + ";");
        int lines = 4 + upTo(22);
        for (int i = 0; i < lines; i++) {
            int a = upTo(nodes);
            int b = (a + 1 + upTo(nodes - 1)) % nodes;
            switch (upTo(5)) {
                case 0 -> s.append(" wire ").append(a).append(' ').append(b).append(' ').append(1 + upTo(9));
                case 1 -> s.append("\nboth ").append(a).append(' ').append(b).append(' ').append(1 + upTo(4));
                default -> s.append(" plan ").append(a).append(' ').append(1 + upTo(5)).append(' ').append(b)
                    .append(' ').append(1 + upTo(3));
            }
            s.append(';');
        }
        return s.toString();
    }

    void begin() {
        step('b', 1 + upTo(10), 0, 0, 0);
    }

    /** All that may come while work goes on; MARKS at most two, so that there is room for one. */
    void change(int many, boolean withMarks) {
        int marks = 0;
        for (int i = 0; i < many; i++) {
            int a = upTo(8);
            int b = upTo(8);
            switch (upTo(15)) {
                case 0 -> step('p', a, 1 + upTo(12), b, 1 + upTo(4));
                case 1 -> step('p', upTo(3), 1 + upTo(12), upTo(3), 1 + upTo(4));
                case 2 -> step('d', upTo(12), 0, 0, 0);
                case 3 -> step('w', a, b, 1 + upTo(9), 0);
                case 4 -> step('s', upTo(4), upTo(12), 0, 0);
                case 5 -> step('c', upTo(5), 0, 0, 0);
                case 6 -> step('a', 0, 0, 0, 0);
                case 7 -> begin();
                case 8 -> {
                    if (withMarks && marks < 2) {
                        marks++;
                        step('m', 0, 0, 0, 0);
                    }
                }
                case 9 -> {
                    if (withMarks && marks > 0 && upTo(2) == 0) {
                        marks--;
                        step('k', 0, 0, 0, 0);
                    }
                }
                case 10 -> step('t', 1 + upTo(20), 0, 0, 0);
                default -> step('t', 1 + upTo(3), 0, 0, 0);
            }
        }
    }

    /** A TEXT, work, and all that changes while it goes on. */
    static Story of(long seed, boolean withMarks) {
        Story s = new Story(seed);
        s.text(s.text());
        s.begin();
        s.change(10 + s.upTo(50), withMarks);
        return s;
    }
}
