/** What 'Terms' says of bounds, sentence by sentence, and promises 3 to 5: each has a test of its own. */
public final class TermsEdgesTest {
    private static final Check check = new Check();
    private static final int NONE = WorkEnds.NONE;

    public static void main(String[] args) {
        aNewObject();
        nodesTwoToEight();
        rootIsNodeZero();
        wireTakesOneToNine();
        wireTakesOneWithout();
        letterTakesAsLongAsItsWire();
        rowsAtMostForty();
        rowsNumberedAsTheyCame();
        afterOneTo200();
        loadOneTo20();
        toAnotherNode();
        atMost600Bytes();
        aByteOfEachKind();
        tokensAsLongAsTheyGo();
        numbersOfOneToThreeDigits();
        linesAnyNumberOfTimes();
        bothIsSoAndBack();
        eachTokenOfAText();
        theEndIsTheTextsLength();
        theFirstAlongTheText();
        a41stRowAtPlan();
        aNewTextAndAtFirst();
        twentyBytesAtATime();
        loadTakesTheFirstBytes();
        faultOfTheLatestLoad();
        check.end();
    }

    private static void good(String text, int nodes) {
        WorkEnds x = new WorkEnds();
        check.fine(x, "load() of " + text, Texts.load(x, text), nodes);
        check.due("fault(0) of " + text, x.fault(0), 0);
        check.due("fault(1) of " + text, x.fault(1), NONE);
    }

    private static void bad(String text, int kind, int place) {
        WorkEnds x = new WorkEnds();
        check.refused(x, "load() of " + text, Texts.load(x, text), 9);
        check.due("fault(0) of " + text, x.fault(0), kind);
        check.due("fault(1) of " + text, x.fault(1), place);
    }

    /** Good within the bounds, else a FAULT of that kind, where the NUMBER is. */
    private static void number(String ahead, String behind, int least, int most, int kind) {
        int[] those = {0, 1, 2, 3, least - 1, least, most, most + 1, 99, 100, 255, 256, 257, 512, 998, 999};
        for (int number : those) {
            if (number >= least && number <= most) {
                WorkEnds x = new WorkEnds();
                check.holds("load() of " + ahead + number + behind, Texts.load(x, ahead + number + behind) > 0);
            } else if (number >= 0) {
                bad(ahead + number + behind, kind, ahead.length());
            }
        }
    }

    // Promise 1: "Two NODES, WIRES of 1, no ROWS, MARKS; an empty tape; STATUS 0."
    private static void aNewObject() {
        check.due("status() of a new object", new WorkEnds().status(), 0);
        WorkEnds x = new WorkEnds();
        x.feed(0, 0, 0, 0, 0);
        x.fault(0);
        check.due("status() of one that no call with a STATUS was made on", x.status(), 0);
        check.refused(x, "load(21) of what one feed() brought", x.load(21), 1);
        x = new WorkEnds();
        check.refused(x, "load(1) of an empty tape", x.load(1), 1);
        check.fine(x, "many(0)", x.many(0), 2);
        check.fine(x, "many(1)", x.many(1), 0);
        check.fine(x, "many(11)", x.many(11), 0);
        check.fine(x, "wire(0, 1)", x.wire(0, 1), 1);
        check.fine(x, "wire(1, 0)", x.wire(1, 0), 1);
        check.due("NONE", NONE, -1);
    }

    // "NODES, 2 to 8, numbered from 0 on"
    private static void nodesTwoToEight() {
        number("nodes ", ";", 2, 8, 4);
        for (int n = 2; n <= 8; n++) {
            WorkEnds x = Texts.of("nodes " + n + ";");
            check.fine(x, "many(0)", x.many(0), n);
            check.fine(x, "node(0, 0) of " + n, x.node(0, 0), 0);
            check.fine(x, "the last NODE of " + n, x.node(n - 1, 0), 0);
            check.refused(x, "a NODE behind the last of " + n, x.node(n, 0), 2);
            check.refused(x, "a NODE ahead of the ROOT", x.node(-1, 0), 2);
        }
        WorkEnds x = new WorkEnds();
        check.fine(x, "many(0) at first", x.many(0), 2);
        for (int n = 2; n < 8; n++) {
            check.fine(x, "add()", x.add(), n);
            check.fine(x, "many(0)", x.many(0), n + 1);
        }
        check.refused(x, "add() of a ninth", x.add(), 3);
        check.fine(x, "many(0)", x.many(0), 8);
        check.refused(x, "node(8, 0)", x.node(8, 0), 2);
    }

    // "0 is the ROOT"
    private static void rootIsNodeZero() {
        for (int n = 2; n <= 8; n++) {
            WorkEnds x = Texts.of("nodes " + n + ";");
            x.begin(7);
            for (int i = 0; i < n; i++) {
                check.fine(x, "WORK of NODE " + i, x.node(i, 0), i == 0 ? 7 : 0);
                check.fine(x, "in the TREE: NODE " + i, x.node(i, 5), i == 0 ? 1 : 0);
                check.fine(x, "WEIGHT of NODE " + i, x.node(i, 9), i == 0 ? 1048576 : 0);
            }
        }
    }

    // "TICKS (1 to 9 ..)"
    private static void wireTakesOneToNine() {
        number("nodes 3;wire 2 0 ", ";", 1, 9, 4);
        number("nodes 3;both 2 0 ", ";", 1, 9, 4);
        WorkEnds x = new WorkEnds();
        int before = 1;
        for (int ticks = -1; ticks <= 11; ticks++) {
            if (ticks >= 1 && ticks <= 9) {
                check.fine(x, "wires(1, 0, " + ticks + ")", x.wires(1, 0, ticks), before);
                check.holds("with(.., " + ticks + ")", x.with(1, 0, 1, 0, ticks) >= 0);
                before = ticks;
            } else {
                check.refused(x, "wires(1, 0, " + ticks + ")", x.wires(1, 0, ticks), 1);
                check.refused(x, "with(.., " + ticks + ")", x.with(1, 0, 1, 0, ticks), 1);
            }
            check.fine(x, "wire(1, 0)", x.wire(1, 0), before);
            check.fine(x, "wire(0, 1)", x.wire(0, 1), 1);
        }
    }

    // "1 without"
    private static void wireTakesOneWithout() {
        WorkEnds x = Texts.of("nodes 8;wire 0 7 9;");
        for (int a = 0; a < 8; a++) {
            for (int b = 0; b < 8; b++) {
                if (a == b) {
                    check.refused(x, "wire(" + a + ", " + a + ")", x.wire(a, a), 4);
                } else {
                    check.fine(x, "wire(" + a + ", " + b + ")", x.wire(a, b), a == 0 && b == 7 ? 9 : 1);
                }
            }
        }
        // A NODE that comes where one was ahead of a new TEXT has WIRES of 1, too.
        Texts.load(x, "nodes 2;");
        for (int n = 2; n < 8; n++) {
            x.add();
        }
        check.fine(x, "wire(0, 7) of a new NODE", x.wire(0, 7), 1);
    }

    // "so many TICKS .. a letter takes"
    private static void letterTakesAsLongAsItsWire() {
        for (int ticks = 1; ticks <= 9; ticks++) {
            WorkEnds x = new WorkEnds();
            x.plan(0, 1, 1, 5);
            x.wires(0, 1, ticks);
            x.begin(20);
            x.tick(1);
            for (int left = ticks; left >= 1; left--) {
                check.fine(x, "letter(0, 3) of " + ticks, x.letter(0, 3), left);
                check.fine(x, "GOT ahead of that", x.node(1, 3), 0);
                x.tick(1);
            }
            check.fine(x, "GOT behind " + ticks, x.node(1, 3), 1);
            check.refused(x, "it is on its way no more", x.letter(0, 3), 5);
        }
    }

    // "ROWS, at most 40"
    private static void rowsAtMostForty() {
        WorkEnds x = new WorkEnds();
        for (int row = 0; row < 40; row++) {
            check.fine(x, "plan()", x.plan(0, 1 + row, 1, 1), row);
            check.fine(x, "many(1)", x.many(1), row + 1);
        }
        check.refused(x, "plan() of a 41st", x.plan(0, 1, 1, 1), 3);
        check.fine(x, "many(1)", x.many(1), 40);
        check.fine(x, "row(39, 1)", x.row(39, 1), 40);
        check.refused(x, "row(40, 1)", x.row(40, 1), 5);
        check.fine(x, "drop(39)", x.drop(39), 39);
        check.refused(x, "drop(39) again", x.drop(39), 5);
        check.fine(x, "plan() of a 40th again", x.plan(1, 7, 0, 2), 39);
        check.refused(x, "plan() of a 41st again", x.plan(0, 1, 1, 1), 3);
        check.fine(x, "drop(0)", x.drop(0), 39);
        check.fine(x, "plan() behind the others", x.plan(1, 8, 0, 2), 39);
        check.fine(x, "row(38, 1)", x.row(38, 1), 7);
        check.fine(x, "row(0, 1)", x.row(0, 1), 2);
    }

    // "numbered from 0 on as they came"
    private static void rowsNumberedAsTheyCame() {
        for (int gone = 0; gone < 4; gone++) {
            WorkEnds x = Texts.of("nodes 3;plan 0 11 1 1;wire 0 1 2;plan 1 12 2 2;");
            check.fine(x, "plan()", x.plan(2, 13, 0, 3), 2);
            check.fine(x, "plan()", x.plan(0, 14, 2, 4), 3);
            int[][] rows = {{0, 11, 1, 1}, {1, 12, 2, 2}, {2, 13, 0, 3}, {0, 14, 2, 4}};
            check.fine(x, "drop(" + gone + ")", x.drop(gone), 3);
            for (int row = 0; row < 3; row++) {
                for (int what = 0; what < 4; what++) {
                    check.fine(x, "row(" + row + ", " + what + ") without " + gone, x.row(row, what),
                        rows[row < gone ? row : row + 1][what]);
                }
            }
            check.refused(x, "row(3, 0)", x.row(3, 0), 5);
        }
    }

    // "AFTER (1 to 200)"
    private static void afterOneTo200() {
        number("nodes 2;plan 0 ", " 1 1;", 1, 200, 4);
        WorkEnds x = new WorkEnds();
        check.refused(x, "AFTER -1", x.plan(0, -1, 1, 1), 1);
        check.refused(x, "AFTER 0", x.plan(0, 0, 1, 1), 1);
        check.fine(x, "AFTER 1", x.plan(0, 1, 1, 1), 0);
        check.fine(x, "AFTER 200", x.plan(0, 200, 1, 2), 1);
        check.refused(x, "AFTER 201", x.plan(0, 201, 1, 1), 1);
        x.begin(200);
        x.tick(1);
        check.fine(x, "SENT as 1 is DONE", x.many(8), 1);
        x.tick(198);
        check.fine(x, "SENT as 199 are DONE", x.many(8), 1);
        x.tick(1);
        check.fine(x, "SENT as 200 are DONE", x.many(8), 2);
    }

    // "LOAD (1 to 20)"
    private static void loadOneTo20() {
        number("nodes 2;plan 0 1 1 ", ";", 1, 20, 4);
        WorkEnds x = new WorkEnds();
        check.refused(x, "LOAD -1", x.plan(0, 1, 1, -1), 1);
        check.refused(x, "LOAD 0", x.plan(0, 1, 1, 0), 1);
        check.fine(x, "LOAD 1", x.plan(0, 1, 1, 1), 0);
        check.fine(x, "LOAD 20", x.plan(0, 2, 1, 20), 1);
        check.refused(x, "LOAD 21", x.plan(0, 1, 1, 21), 1);
        x.begin(2);
        x.tick(2);
        check.fine(x, "the LETTER of 20", x.letter(0, 4), 20);
        check.fine(x, "NODE 1 did the one it got", x.node(1, 0), 0);
        x.tick(1);
        check.fine(x, "NODE 1 has 20 less one", x.node(1, 0), 19);
    }

    // "TO another NODE", "4 .. the second NODE is the first"
    private static void toAnotherNode() {
        for (int a = 0; a < 3; a++) {
            for (int b = 0; b < 3; b++) {
                String row = "nodes 3;plan " + a + " 1 " + b + " 1;";
                String wire = "nodes 3;wire " + a + " " + b + " 1;";
                String both = "nodes 3;both " + a + " " + b + " 1;";
                WorkEnds x = Texts.of("nodes 3;");
                if (a == b) {
                    bad(row, 4, 17);
                    bad(wire, 4, 15);
                    bad(both, 4, 15);
                    check.refused(x, "plan() to itself", x.plan(a, 1, b, 1), 4);
                } else {
                    good(row, 3);
                    good(wire, 3);
                    good(both, 3);
                    check.fine(x, "plan()", x.plan(a, 1, b, 1), 0);
                    check.fine(x, "row(0, 0)", x.row(0, 0), a);
                    check.fine(x, "row(0, 2)", x.row(0, 2), b);
                }
            }
        }
    }

    // "A TEXT: at most 600 bytes"
    private static void atMost600Bytes() {
        String last = "wire 0 1 9;";
        String text = "nodes 2;" + " ".repeat(600 - 8 - last.length()) + last;
        WorkEnds x = new WorkEnds();
        check.fine(x, "load() of 600", Texts.load(x, text), 2);
        check.fine(x, "its last LINE", x.wire(0, 1), 9);
        x = new WorkEnds();
        Texts.feed(x, text);
        check.due("a feed() more", x.feed(1, 1, 1, 1, 1), NONE);
        check.refused(x, "load(601)", x.load(601), 1);
        check.fine(x, "load(600), the tape as it was", x.load(600), 2);
        bad(text.substring(0, 599), 2, 599);
        bad(text.substring(0, 599) + "?", 1, 599);
        bad(text.substring(0, 599) + "1", 4, 598);
        bad(text.substring(0, 599) + " ", 2, 600);
    }

    // "blanks (10, 32): WORDS (small letters), NUMBERS .., the SIGN ;", "1 no TOKEN begins so"
    private static void aByteOfEachKind() {
        for (int b = 0; b < 256; b++) {
            String sign = String.valueOf((char) b);
            boolean blank = b == 10 || b == 32;
            boolean digit = b >= '0' && b <= '9';
            boolean letter = b >= 'a' && b <= 'z';
            boolean token = digit || letter || b == ';';
            if (blank) {
                good(sign + "nodes" + sign + "3" + sign + ";" + sign + "wire 0" + sign + sign + "1 1;" + sign, 3);
            }
            // Behind a WORD, where a LINE begins, where a NUMBER must stand, behind a NUMBER.
            if (digit) {
                int number = 10 * (b - '0') + 3;
                if (number == 3) {
                    good("nodes" + sign + "3;", 3);
                } else {
                    bad("nodes" + sign + "3;", 4, 5);
                }
            } else if (!blank) {
                bad("nodes" + sign + "3;", token ? 2 : 1, letter ? 0 : 5);
            }
            if (!blank) {
                bad("nodes 3;" + sign, token ? 2 : 1, 8);
            }
            if (digit && b >= '2' && b <= '8') {
                good("nodes " + sign + ";", b - '0');
            } else if (!blank) {
                bad("nodes " + sign + ";", digit ? 4 : token ? 2 : 1, 6);
            }
            if (b == ';') {
                good("nodes 3" + sign, 3);
            } else if (!blank) {
                bad("nodes 3" + sign, digit ? 4 : token ? 2 : 1, digit ? 6 : 7);
            }
        }
    }

    // "TOKENS, as long as they go"
    private static void tokensAsLongAsTheyGo() {
        bad("nodesnodes 3;", 2, 0);
        bad("nod es 3;", 2, 0);
        bad("nodes 3;wirewire 0 1 1;", 2, 8);
        bad("nodes 3;wir e 0 1 1;", 2, 8);
        bad("nodes 3;wire 01 2;", 2, 17);
        bad("nodes 3;wire 0 11;", 3, 15);
        bad("nodes 3;wire 0 1 11;", 4, 17);
        good("nodes 3;wire 0 1 1;", 3);
        good("nodes\n\n  3 \n ;  wire  0\n1 1  ;\n", 3);
    }

    // "NUMBERS (1 to 3 digits)", "1 .. (a NUMBER of 4 digits and more: at its first)"
    private static void numbersOfOneToThreeDigits() {
        good("nodes 3;", 3);
        good("nodes 03;", 3);
        good("nodes 003;", 3);
        bad("nodes 0003;", 1, 6);
        bad("nodes 00003;", 1, 6);
        bad("nodes 3000;", 1, 6);
        bad("nodes 4294967299;", 1, 6);
        bad("nodes 18446744073709551619;", 1, 6);
        // Also where no NUMBER can stand: of one TOKEN the least kind.
        bad("nodes 3;0000", 1, 8);
        bad("nodes 3;000", 2, 8);
        bad("0003;", 1, 0);
        bad("003;", 2, 0);
        bad("nodes 3 1000;", 1, 8);
        bad("nodes 3 100;", 2, 8);
        good("nodes 003;wire 001 002 009;both 000 001 001;plan 002 200 000 020;", 3);
        bad("nodes 3;wire 0001 2 9;", 1, 13);
        bad("nodes 3;wire 1 0002 9;", 1, 15);
        bad("nodes 3;wire 1 2 0009;", 1, 17);
        bad("nodes 3;plan 1 0002 0 1;", 1, 15);
        bad("nodes 3;plan 1 2 0 0001;", 1, 19);
        // A TEXT may end within it.
        WorkEnds x = new WorkEnds();
        Texts.feed(x, "nodes 0034;");
        check.refused(x, "load(9)", x.load(9), 9);
        check.due("fault(0)", x.fault(0), 2);
        check.due("fault(1)", x.fault(1), 9);
        Texts.feed(x, "nodes 0034;");
        check.refused(x, "load(10)", x.load(10), 9);
        check.due("fault(0)", x.fault(0), 1);
        check.due("fault(1)", x.fault(1), 6);
    }

    // "{LINE} .. any number of times"
    private static void linesAnyNumberOfTimes() {
        StringBuilder text = new StringBuilder("nodes 2;");
        good(text.toString(), 2);
        for (int lines = 1; text.length() + 11 <= 600; lines++) {
            text.append("wire 0 1 " + (1 + lines % 9) + ";");
            WorkEnds x = new WorkEnds();
            check.fine(x, lines + " LINES", Texts.load(x, text.toString()), 2);
            check.fine(x, "the last of them holds", x.wire(0, 1), 1 + lines % 9);
        }
    }

    // "both: so and back"
    private static void bothIsSoAndBack() {
        WorkEnds x = Texts.of("nodes 3;wire 0 1 4;both 1 2 5;wire 2 1 6;both 2 0 7;");
        int[][] due = {{0, 4, 7}, {1, 0, 5}, {7, 6, 0}};
        for (int a = 0; a < 3; a++) {
            for (int b = 0; b < 3; b++) {
                if (a != b) {
                    check.fine(x, "wire(" + a + ", " + b + ")", x.wire(a, b), due[a][b]);
                }
            }
        }
    }

    private static final String[] TOKENS = {"nodes", "3", ";", "wire", "0", "1", "2", ";", "both", "1", "2", "3", ";",
        "plan", "2", "5", "0", "7", ";", "plan", "0", "200", "1", "20", ";"};
    /** Of each TOKEN: w a WORD, n, t, a, l how many NODES, TICKS, AFTER, LOAD, i a NODE, j the second one, ; the SIGN. */
    private static final String KINDS = "wn;wijt;wijt;wiajl;wiajl;";

    private static int placeOf(int token) {
        int place = 0;
        for (int i = 0; i < token; i++) {
            place += TOKENS[i].length() + 1;
        }
        return place;
    }

    private static String with(int token, String other, String more) {
        StringBuilder text = new StringBuilder();
        for (int i = 0; i < TOKENS.length; i++) {
            text.append(i == token ? other : TOKENS[i]).append(' ');
        }
        return text.append(more).toString();
    }

    /** Of each TOKEN each FAULT that it can have, with nothing and with other FAULTS behind it. */
    private static void eachTokenOfAText() {
        good(with(-1, "", ""), 3);
        for (int i = 0; i < TOKENS.length; i++) {
            char kind = KINDS.charAt(i);
            int place = placeOf(i);
            for (String more : new String[] {"", "?", "1234", ";", "wire 9"}) {
                for (String no : new String[] {"?", "1234", "00001", "A", "-1", "\t", "_", ","}) {
                    bad(with(i, no, more), 1, place);
                }
                for (String other : new String[] {"nodes", "wire", "both", "plan", "x", "nodesx", "wir", "plans", "no"}) {
                    boolean can = kind == 'w' && (i == 0 ? other.equals("nodes")
                        : other.equals("wire") || other.equals("both") || other.equals("plan"));
                    if (!can) {
                        bad(with(i, other, more), 2, place);
                    }
                }
                if (kind == 'w' || kind == ';') {
                    bad(with(i, "3", more), 2, place);
                    bad(with(i, "999", more), 2, place);
                }
                if (kind != ';') {
                    bad(with(i, ";", more), 2, place);
                }
                numbersOf(i, kind, place, more);
            }
        }
    }

    private static void numbersOf(int i, char kind, int place, String more) {
        if (kind == 'i' || kind == 'j') {
            bad(with(i, "3", more), 3, place);
            bad(with(i, "9", more), 3, place);
            bad(with(i, "999", more), 3, place);
        }
        if (kind == 'j') {
            String first = TOKENS[KINDS.charAt(i - 1) == 'a' ? i - 2 : i - 1];
            bad(with(i, first, more), 4, place);
            bad(with(i, "00" + first, more), 4, place);
        }
        int at = "ntal".indexOf(kind);
        if (at >= 0) {
            bad(with(i, String.valueOf(new int[] {1, 0, 0, 0}[at]), more), 4, place);
            bad(with(i, String.valueOf(new int[] {9, 10, 201, 21}[at]), more), 4, place);
            bad(with(i, "999", more), 4, place);
        }
    }

    // "2 it can't stand there (the end: the text's length)"
    private static void theEndIsTheTextsLength() {
        bad("", 2, 0);
        bad(" ", 2, 1);
        bad("\n \n", 2, 3);
        String text = with(-1, "", "");
        for (int i = 0; i < TOKENS.length; i++) {
            int place = placeOf(i);
            if (i > 0 && KINDS.charAt(i - 1) == ';' && i > 2) {
                good(text.substring(0, place), 3);
                good(text.substring(0, place - 1), 3);
            } else {
                bad(text.substring(0, place), 2, place);
                bad(text.substring(0, place) + "\n  \n", 2, place + 4);
                if (i > 0) {
                    bad(text.substring(0, place - 1), 2, place - 1);
                }
            }
        }
        // What lies on the tape behind the TEXT is not of it.
        WorkEnds x = new WorkEnds();
        Texts.feed(x, "nodes 3;wire 0 1 12;");
        check.refused(x, "load(17)", x.load(17), 9);
        check.due("fault(0)", x.fault(0), 2);
        check.due("fault(1)", x.fault(1), 17);
        endsWithin("nodes", 5, 2, 5);
        endsWithin("nodes", 4, 2, 0);
        endsWithin("nodesx 3;", 5, 2, 5);
        endsWithin("nodes 39;", 7, 2, 7);
        endsWithin("nodes 93;", 7, 4, 6);
        endsWithin("nodes 0003;", 9, 4, 6);
        endsWithin("nodes 3;planx", 12, 2, 12);
        endsWithin("nodes 3;plan ", 13, 2, 13);
        endsWithin("nodes 3;?", 9, 1, 8);
        // Where the tape ends, too: with a letter, with a digit.
        String most = "nodes 3;" + " ".repeat(591);
        bad(most + "w", 2, 599);
        bad(most.substring(0, 596) + "wire", 2, 600);
        bad(most + "3", 2, 599);
        bad(most.substring(0, 595) + "wire0", 2, 600);
        bad(most.substring(0, 596) + "1000", 1, 596);
    }

    private static void endsWithin(String tape, int n, int kind, int place) {
        WorkEnds x = new WorkEnds();
        Texts.feed(x, tape);
        check.refused(x, "load(" + n + ") of " + tape, x.load(n), 9);
        check.due("fault(0)", x.fault(0), kind);
        check.due("fault(1)", x.fault(1), place);
    }

    // "FAULTS, the first along the text"
    private static void theFirstAlongTheText() {
        bad("nodes 9;?", 4, 6);
        bad("nodes 3;wire 3 0 1 ?", 3, 13);
        bad("nodes 3;wire 0 0 9999", 4, 15);
        bad("nodes 3;wire 0 1 0 0;?", 4, 17);
        bad("nodes 3;wire 0 1 1 1;?", 2, 19);
        bad("nodes 3;? wire 0 1 1 1;", 1, 8);
        bad("nodes 3 nodes 9", 2, 8);
        bad("? nodes 9", 1, 0);
    }

    // "5 a 41st ROW (at plan)"
    private static void a41stRowAtPlan() {
        StringBuilder text = new StringBuilder("nodes 2;");
        for (int i = 0; i < 39; i++) {
            text.append("plan 0 1 1 1;");
        }
        good(text.toString(), 2);
        text.append("plan 1 1 0 1;");
        good(text.toString(), 2);
        int place = text.length();
        String[] lines = {"plan 0 1 1 1;", "plan", "plan ", "plan;", "plan 9 9 9 9;", "plan ?", "plan 0 0 0 0", "plan plan"};
        for (String line : lines) {
            bad(text + line, 5, place);
            bad(text + " " + line, 5, place + 1);
        }
        bad(text + "plans", 2, place);
        bad(text + "pla", 2, place);
        bad(text + "9", 2, place);
        good(text + "wire 0 1 2;", 2);
        bad(text + "wire 0 1 2;plan", 5, place + 11);
        bad(text + "wire 0 1 0;plan", 4, place + 9);
    }

    // "With a new TEXT, and at first (2 NODES, no ROWS): TICK 0, no work BEGAN, all COUNTS 0, no EVENTS."
    private static void aNewTextAndAtFirst() {
        String text = "nodes 3;wire 0 1 2;plan 0 1 2 1;";
        for (int part = 0; part < Looks.PARTS; part++) {
            for (int paper = 0; paper < 4; paper++) {
                WorkEnds x = used(paper);
                WorkEnds y = new WorkEnds();
                check.due("load()", Texts.load(x, text), Texts.load(y, text));
                same(x, y, part, "a new TEXT");
                x = used(paper);
                Texts.load(x, text);
                x.begin(2);
                x.tick(3);
                y = Texts.of(text);
                y.begin(2);
                y.tick(3);
                same(x, y, part, "a new TEXT, and work");
                x = used(paper);
                Texts.load(x, "nodes 2;");
                same(x, Texts.of("nodes 2;"), part, "a TEXT without LINES");
                // Where NODES were ahead of it there is nothing left of them.
                x = used(paper);
                Texts.load(x, "nodes 2;");
                y = Texts.of("nodes 2;");
                for (int n = 2; n < 8; n++) {
                    check.due("add()", x.add(), y.add());
                }
                same(x, y, part, "a TEXT and new NODES");
            }
            if (part > 0) {
                same(new WorkEnds(), Texts.of("nodes 2;"), part, "a new object");
            }
        }
        WorkEnds x = new WorkEnds();
        int[] many = {2, 0, 0, 0, 0, 0, 0, 0, 0, NONE, NONE, 0};
        for (int what = 0; what < many.length; what++) {
            check.fine(x, "many(" + what + ") at first", x.many(what), many[what]);
        }
        check.refused(x, "event(0, 0) at first", x.event(0, 0), 5);
        check.refused(x, "row(0, 0) at first", x.row(0, 0), 5);
        check.refused(x, "letter(0, 0) at first", x.letter(0, 0), 5);
        check.fine(x, "wire(0, 1) at first", x.wire(0, 1), 1);
        check.fine(x, "wire(1, 0) at first", x.wire(1, 0), 1);
        check.refused(x, "back() at first", x.back(), 5);
        check.due("an empty tape", x.feed(0, 0, 0, 0, 0), 20);
    }

    /** All that a new TEXT must clear is there, in what is so and, by the call made last, in what went ON PAPER. */
    private static WorkEnds used(int paper) {
        StringBuilder text = new StringBuilder("nodes 8;both 0 1 9;wire 2 1 3;plan 0 1 1 2;plan 0 1 2 5;plan 1 1 0 3;");
        for (int i = 0; i < 25; i++) {
            text.append("plan 2 3 7 9;");
        }
        WorkEnds x = Texts.of(text.toString());
        x.sleep(0, 3);
        x.sleep(2, 2);
        x.sleep(6, 50);
        x.tick(5);
        x.begin(2);
        x.tick(9);
        x.cut(7);
        x.tick(1);
        switch (paper) {
            case 0 -> { }
            case 1 -> x.whole(2);
            case 2 -> x.tells(2);
            default -> {
                x.tick(300);
                x.sleep(0, 50);
                x.sleep(1, 49);
                check.fine(x, "ends()", x.ends(), 0);
            }
        }
        return x;
    }

    private static void same(WorkEnds x, WorkEnds y, int part, String when) {
        var got = Looks.part(x, part);
        var want = Looks.part(y, part);
        check.due("how much is seen: " + when, got.size(), want.size());
        for (int i = 0; i < Math.min(got.size(), want.size()); i++) {
            check.holds(got.get(i) + ", due is " + want.get(i) + ": " + when, got.get(i).equals(want.get(i)));
        }
    }

    // Promise 3: "how many it has; NONE if there would be more than 600"
    private static void twentyBytesAtATime() {
        WorkEnds x = new WorkEnds();
        for (int i = 1; i <= 30; i++) {
            check.due("feed()", x.feed(0x6e6f6465, 0x73, 0, 0, -1), 20 * i);
        }
        for (int i = 0; i < 3; i++) {
            check.due("feed() beyond 600", x.feed(0, 0, 0, 0, 0), NONE);
        }
        x.load(600);
        check.due("feed() on an empty tape", x.feed(0, 0, 0, 0, 0), 20);
        // "the highest of each int first": each byte of the twenty is where it must be.
        String twenty = "nodes 2;wire 0 1 3 ;";
        for (int at = 0; at < 20; at++) {
            for (int bit = 0; bit < 8; bit++) {
                char other = (char) (twenty.charAt(at) ^ 1 << bit);
                StringBuilder text = new StringBuilder(twenty);
                text.setCharAt(at, other);
                Model due = new Model();
                x = new WorkEnds();
                due.feed(Texts.four(text.toString(), 0), Texts.four(text.toString(), 4), Texts.four(text.toString(), 8),
                    Texts.four(text.toString(), 12), Texts.four(text.toString(), 16));
                int want = due.load(20);
                check.due("load() of " + text, Texts.load(x, text.toString()), want);
                check.due("its FAULT", x.fault(0), due.fault(0));
                check.due("its place", x.fault(1), due.fault(1));
            }
        }
    }

    // Promise 4: "The first n bytes of the tape (which is empty then) .. (1: n below 0, above what the tape has; 9)"
    private static void loadTakesTheFirstBytes() {
        for (int fed = 0; fed <= 600; fed += 20) {
            WorkEnds x = new WorkEnds();
            Texts.feed(x, ("nodes 5;" + " ".repeat(592)).substring(0, fed));
            check.refused(x, "load(-1) of " + fed, x.load(-1), 1);
            check.refused(x, "load() of one more than " + fed, x.load(fed + 1), 1);
            if (fed == 0) {
                check.refused(x, "load(0) of an empty tape", x.load(0), 9);
            } else {
                check.fine(x, "load(" + fed + ")", x.load(fed), 5);
            }
            check.refused(x, "load(1): it is empty then", x.load(1), 1);
            check.refused(x, "load(0): it is empty then", x.load(0), 9);
        }
        WorkEnds x = new WorkEnds();
        Texts.feed(x, "nodes 5;nodes 6;....");
        check.fine(x, "load(8) of 20", x.load(8), 5);
        check.refused(x, "load(8): what was behind it is gone", x.load(8), 1);
        check.due("feed()", x.feed(0, 0, 0, 0, 0), 20);
        x = new WorkEnds();
        Texts.feed(x, "nodes 5;nodes 6;....");
        check.refused(x, "load(9) of 20", x.load(9), 9);
        check.due("feed(): it is empty with 9, too", x.feed(0, 0, 0, 0, 0), 20);
        check.refused(x, "load(0) of 20", x.load(0), 9);
        check.due("feed(): it is empty with load(0), too", x.feed(0, 0, 0, 0, 0), 20);
        endsWithin("?", 0, 2, 0);
        endsWithin("  nodes 3;", 0, 2, 0);
        endsWithin("  nodes 3;", 1, 2, 1);
    }

    // Promise 5: "Of the latest load() with STATUS 0 or 9 .. NONE for others, and ahead of any"
    private static void faultOfTheLatestLoad() {
        WorkEnds x = new WorkEnds();
        faultIs(x, NONE, NONE);
        x.load(1);
        faultIs(x, NONE, NONE);
        x.feed(0, 0, 0, 0, 0);
        x.load(-1);
        faultIs(x, NONE, NONE);
        x.load(3);
        faultIs(x, 1, 0);
        x.load(1);
        faultIs(x, 1, 0);
        Texts.load(x, "nodes 3;");
        faultIs(x, 0, NONE);
        x.load(1);
        faultIs(x, 0, NONE);
        Texts.load(x, "nodes 3;wire 1 1 1;");
        faultIs(x, 4, 15);
        x.mark();
        Texts.load(x, "nodes 3;wire 1 5 1;");
        faultIs(x, 3, 15);
        x.back();
        faultIs(x, 3, 15);
    }

    private static void faultIs(WorkEnds x, int kind, int place) {
        check.due("fault(0)", x.fault(0), kind);
        check.due("fault(1)", x.fault(1), place);
        for (int what : new int[] {Integer.MIN_VALUE, -2, -1, 2, 3, Integer.MAX_VALUE}) {
            check.due("fault(" + what + ")", x.fault(what), NONE);
        }
    }
}
