/** Feeds a TEXT to an object, twenty bytes a call. */
final class Texts {
    private Texts() {
    }

    static void feed(WorkEnds x, String text) {
        for (int at = 0; at < text.length(); at += 20) {
            x.feed(four(text, at), four(text, at + 4), four(text, at + 8), four(text, at + 12), four(text, at + 16));
        }
    }

    static int load(WorkEnds x, String text) {
        feed(x, text);
        return x.load(text.length());
    }

    static WorkEnds of(String text) {
        WorkEnds x = new WorkEnds();
        load(x, text);
        return x;
    }

    static int four(String text, int at) {
        int value = 0;
        for (int i = at; i < at + 4; i++) {
            value = value << 8 | (i < text.length() ? text.charAt(i) & 255 : 0);
        }
        return value;
    }
}
