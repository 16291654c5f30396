/** Promises 1 to 5: a new object, status, feed, load, fault. */
public final class TextTest {
    private static final Check check = new Check();

    public static void main(String[] args) {
        newObject();
        tape();
        loads();
        faults();
        cutOff();
        loadKeepsAndClears();
        check.end();
    }

    private static void newObject() {
        WorkEnds x = new WorkEnds();
        check.due("status() of a new object", x.status(), 0);
        check.due("fault(0) ahead of any load()", x.fault(0), WorkEnds.NONE);
        check.due("fault(1) ahead of any load()", x.fault(1), WorkEnds.NONE);
        check.fine(x, "many(0)", x.many(0), 2);
        check.fine(x, "many(1)", x.many(1), 0);
        check.fine(x, "many(2)", x.many(2), 0);
        check.fine(x, "many(11)", x.many(11), 0);
        check.fine(x, "wire(0, 1)", x.wire(0, 1), 1);
        check.fine(x, "wire(1, 0)", x.wire(1, 0), 1);
        check.refused(x, "load(1) of an empty tape", x.load(1), 1);
        check.refused(x, "many(12)", x.many(12), 1);
        // These have no STATUS of their own.
        x.feed(0, 0, 0, 0, 0);
        x.fault(0);
        x.fault(7);
        check.due("status() after feed() and fault()", x.status(), 1);
        check.due("status() after status()", x.status(), 1);
    }

    private static void tape() {
        WorkEnds x = new WorkEnds();
        for (int i = 1; i <= 30; i++) {
            check.due("feed " + i, x.feed(-1, -1, -1, -1, -1), 20 * i);
        }
        check.due("feed 31", x.feed(1, 2, 3, 4, 5), WorkEnds.NONE);
        check.due("feed 32", x.feed(1, 2, 3, 4, 5), WorkEnds.NONE);
        check.refused(x, "load(601)", x.load(601), 1);
        check.refused(x, "load(-1)", x.load(-1), 1);
        check.due("fault(0) after load() with STATUS 1", x.fault(0), WorkEnds.NONE);
        check.refused(x, "load(600) of bytes 255", x.load(600), 9);
        check.due("fault(0)", x.fault(0), 1);
        check.due("fault(1)", x.fault(1), 0);
        check.due("feed after that", x.feed(0, 0, 0, 0, 0), 20);
        check.refused(x, "load(21)", x.load(21), 1);
        check.due("fault(0) stays with STATUS 1", x.fault(0), 1);
        // The highest byte of each int comes first.
        x = new WorkEnds();
        check.due("feed", x.feed(0x6e6f6465, 0x7320353b, 0x77697265, 0x20302034, 0x20393b20), 20);
        check.fine(x, "load(20)", x.load(20), 5);
        check.fine(x, "wire(0, 4)", x.wire(0, 4), 9);
        check.fine(x, "wire(4, 0)", x.wire(4, 0), 1);
        // Of 40 bytes the first 20 are the TEXT, and the tape is empty then.
        x = new WorkEnds();
        Texts.feed(x, "nodes 3;            ; ; ; ; ; ; ; ; ; ; ");
        check.fine(x, "load(20) of 40", x.load(20), 3);
        check.due("feed then", x.feed(0, 0, 0, 0, 0), 20);
        // As long as a TEXT may be.
        StringBuilder longest = new StringBuilder("nodes 8;");
        while (longest.length() < 592) {
            longest.append('\n');
        }
        x = new WorkEnds();
        check.fine(x, "load() of 600 bytes", Texts.load(x, longest.append("        ").toString()), 8);
    }

    private static void loads() {
        WorkEnds x = new WorkEnds();
        check.fine(x, "load()", Texts.load(x,
            "\n nodes 008\n;wire0 1 9;both 2 3 4;both 3 2 5 ; wire 2 3 001;plan 7 200 0 20;plan 0 1 7 1;"), 8);
        check.due("fault(0)", x.fault(0), 0);
        check.due("fault(1)", x.fault(1), WorkEnds.NONE);
        check.due("fault(2)", x.fault(2), WorkEnds.NONE);
        check.due("fault(-1)", x.fault(-1), WorkEnds.NONE);
        check.fine(x, "wire(0, 1)", x.wire(0, 1), 9);
        check.fine(x, "wire(1, 0)", x.wire(1, 0), 1);
        check.fine(x, "wire(2, 3)", x.wire(2, 3), 1);
        check.fine(x, "wire(3, 2)", x.wire(3, 2), 5);
        check.fine(x, "many(1)", x.many(1), 2);
        int[][] rows = {{7, 200, 0, 20}, {0, 1, 7, 1}};
        for (int row = 0; row < 2; row++) {
            for (int what = 0; what < 4; what++) {
                check.fine(x, "row(" + row + ", " + what + ")", x.row(row, what), rows[row][what]);
            }
        }
        check.fine(x, "load() of two NODES", Texts.load(x, "nodes 2;"), 2);
        check.fine(x, "many(1)", x.many(1), 0);
        check.refused(x, "wire(2, 3)", x.wire(2, 3), 2);
        StringBuilder forty = new StringBuilder("nodes 2;");
        for (int i = 0; i < 40; i++) {
            forty.append("plan 0 1 1 1;");
        }
        check.fine(x, "load() of 40 ROWS", Texts.load(x, forty.toString()), 2);
        check.fine(x, "many(1)", x.many(1), 40);
        fault(forty + " plan", 5, forty.length() + 1);
        fault(forty + "plan 9 9 9 9 9", 5, forty.length());
        fault(forty + "wire 0 1 0;", 4, forty.length() + 9);
        fault(forty + "plans", 2, forty.length());
    }

    private static void fault(String text, int kind, int place) {
        WorkEnds x = new WorkEnds();
        check.refused(x, "load() of " + text, Texts.load(x, text), 9);
        check.due("fault(0) of " + text, x.fault(0), kind);
        check.due("fault(1) of " + text, x.fault(1), place);
        check.due("fault(2) of " + text, x.fault(2), WorkEnds.NONE);
        check.fine(x, "many(0) after " + text, x.many(0), 2);
        check.fine(x, "many(1) after " + text, x.many(1), 0);
    }

    private static void faults() {
        fault("", 2, 0);
        fault("  \n ", 2, 4);
        fault("nodes", 2, 5);
        fault("nodes ", 2, 6);
        fault("nodes 3", 2, 7);
        fault("nodes 3 \n", 2, 9);
        fault(";", 2, 0);
        fault("3 nodes;", 2, 0);
        fault("node 3;", 2, 0);
        fault("nodess 3;", 2, 0);
        fault("nodes ;", 2, 6);
        fault("nodes nodes;", 2, 6);
        fault("nodes 3 3;", 2, 8);
        fault("nodes 3;;", 2, 8);
        fault("nodes 3;nodes 3;", 2, 8);
        fault("nodes 3; 7", 2, 9);
        // 1: no TOKEN begins so.
        fault("Nodes 3;", 1, 0);
        fault("nodes\t3;", 1, 5);
        fault("nodes 3;\r", 1, 8);
        fault("nodes -3;", 1, 6);
        fault("nodes 3,", 1, 7);
        fault("nodes 0003;", 1, 6);
        fault("nodes 3; 1234", 1, 9);
        fault("1234", 1, 0);
        fault("nodes 3;wire 0 1 12345678901234567890;", 1, 17);
        fault("nodes " + (char) 233, 1, 6);
        fault("nodes 3;" + (char) 0, 1, 8);
        fault("nodes 3;pl" + (char) 225 + "n", 2, 8);
        // What lies just beside the letters and the digits begins no TOKEN.
        fault("nodes 3;az", 2, 8);
        fault("nodes 3;z", 2, 8);
        fault("nodes 3;`", 1, 8);
        fault("nodes 3;{", 1, 8);
        fault("nodes /;", 1, 6);
        fault("nodes :;", 1, 6);
        fault("nodes 3:", 1, 7);
        fault("nodes <;", 1, 6);
        // 4: how many NODES there can be.
        fault("nodes 0;", 4, 6);
        fault("nodes 1;", 4, 6);
        fault("nodes 9;", 4, 6);
        fault("nodes 999;", 4, 6);
        fault("nodes 9 nonsense", 4, 6);
        // Wires: 3 ahead of 4, the first along the text.
        fault("nodes 3;wire 3 0 1;", 3, 13);
        fault("nodes 3;wire 0 3 1;", 3, 15);
        fault("nodes 3;wire 3 3 0;", 3, 13);
        fault("nodes 3;wire 2 2 0;", 4, 15);
        fault("nodes 3;wire 0 1 0;", 4, 17);
        fault("nodes 3;wire 0 1 10;", 4, 17);
        fault("nodes 3;wire 0 1 9", 2, 18);
        fault("nodes 3;wire 0 1;", 2, 16);
        fault("nodes 3;wire 0 1 1 1;", 2, 19);
        fault("nodes 3;wire 0 one 1;", 2, 15);
        fault("nodes 3;both 0 0 1;", 4, 15);
        fault("nodes 3;both 0 8 1;", 3, 15);
        fault("nodes 3;both 0 1 100;", 4, 17);
        // Rows.
        fault("nodes 3;plan 3 1 0 1;", 3, 13);
        fault("nodes 3;plan 0 0 1 1;", 4, 15);
        fault("nodes 3;plan 0 201 1 1;", 4, 15);
        fault("nodes 3;plan 0 200 3 1;", 3, 19);
        fault("nodes 3;plan 0 200 0 1;", 4, 19);
        fault("nodes 3;plan 0 200 1 0;", 4, 21);
        fault("nodes 3;plan 0 200 1 21;", 4, 21);
        fault("nodes 3;plan 0 200 1 20", 2, 23);
        fault("nodes 3;plan 0 200 1;", 2, 20);
        fault("nodes 3;plan 0 200 1 20 plan", 2, 24);
        fault("nodes 3;plan 0 1 1 1;plan 0 1 1 1;plan 0 1 1 0;", 4, 45);
    }

    /** A TEXT ends where it ends, whatever lies behind it on the tape. */
    private static void cutOff() {
        String tape = " nodes 3;wire 0 1 12;plan 0 1 1 1;";
        int[][] cuts = {{0, 2, 0}, {1, 2, 1}, {5, 2, 1}, {6, 2, 6}, {8, 2, 8}, {12, 2, 9}, {19, 2, 19}, {20, 4, 18}};
        for (int[] cut : cuts) {
            WorkEnds x = new WorkEnds();
            Texts.feed(x, tape);
            check.refused(x, "load(" + cut[0] + ")", x.load(cut[0]), 9);
            check.due("fault(0) of load(" + cut[0] + ")", x.fault(0), cut[1]);
            check.due("fault(1) of load(" + cut[0] + ")", x.fault(1), cut[2]);
        }
        WorkEnds x = new WorkEnds();
        Texts.feed(x, tape);
        check.fine(x, "load(9)", x.load(9), 3);
    }

    private static void loadKeepsAndClears() {
        WorkEnds x = Texts.of("nodes 3;wire 0 1 3;plan 0 1 1 2;");
        x.begin(2);
        x.sleep(2, 9);
        x.tick(2);
        x.cut(0);
        x.mark();
        int events = 0;
        while (x.event(events, 0) != WorkEnds.NONE) {
            events++;
        }
        // With STATUS 9 nothing but the tape and fault() is another one.
        check.refused(x, "load()", Texts.load(x, "nodes 4;plan 0 1 1 2;wire 0 0 3;"), 9);
        check.fine(x, "many(0)", x.many(0), 3);
        check.fine(x, "many(1)", x.many(1), 1);
        check.fine(x, "many(2)", x.many(2), 2);
        check.fine(x, "wire(0, 1)", x.wire(0, 1), 3);
        check.fine(x, "node(2, 12)", x.node(2, 12), 7);
        check.fine(x, "cutting(0)", x.cutting(0), 1);
        check.refused(x, "event()", x.event(events, 0), 5);
        check.holds("event() ahead of that", x.event(events - 1, 0) != WorkEnds.NONE);
        check.due("the tape is empty", x.feed(0, 0, 0, 0, 0), 20);
        x.load(0);
        // A new TEXT: all anew but the MARKS.
        check.fine(x, "load()", Texts.load(x, "nodes 4;"), 4);
        int[] due = {4, 0, 0, 0, 0, 0, 0, 0, 0, -1, -1, 1};
        for (int what = 0; what < due.length; what++) {
            check.fine(x, "many(" + what + ")", x.many(what), due[what]);
        }
        for (int i = 0; i < 4; i++) {
            for (int what = 0; what < 14; what++) {
                check.fine(x, "node(" + i + ", " + what + ")", x.node(i, what), what == 4 ? -1 : 0);
            }
        }
        for (int w = 0; w < 4; w++) {
            for (int what = 0; what < 6; what++) {
                check.fine(x, "watch(" + w + ", " + what + ")", x.watch(w, what), what == 0 ? -1 : 0);
            }
            check.fine(x, "weights(" + w + ")", x.weights(w), 0);
            check.fine(x, "ledger(0, 1, " + w + ")", x.ledger(0, 1, w), 0);
        }
        check.fine(x, "wire(0, 1)", x.wire(0, 1), 1);
        check.refused(x, "event(0, 0)", x.event(0, 0), 5);
        check.refused(x, "cutting(0)", x.cutting(0), 5);
        check.refused(x, "letter(0, 0)", x.letter(0, 0), 5);
        check.refused(x, "ends()", x.ends(), 7);
        // What fault() tells and the tape are not taken back.
        x.load(1);
        Texts.load(x, "nodes 4;?");
        x.feed(0, 0, 0, 0, 0);
        check.fine(x, "back()", x.back(), 0);
        check.fine(x, "many(0)", x.many(0), 3);
        check.fine(x, "node(2, 12)", x.node(2, 12), 7);
        check.due("fault(0)", x.fault(0), 1);
        check.due("fault(1)", x.fault(1), 8);
        check.due("feed", x.feed(0, 0, 0, 0, 0), 40);
    }
}
