/** What section 3 says of the watches, CUTS, ledgers, LAGS and BOUNDS, sentence by sentence. */
public final class WatchEdgesTest {
    private static final Check check = new Check();
    private static final int NONE = WorkEnds.NONE;

    public static void main(String[] args) {
        owesMoreAndLess();
        rootIsInTheTree();
        leavesTheTreeIdleOwingNothing();
        parentIsWhoSentTheFirst();
        rootTellsOwingNothing();
        theMostInTheTree();
        tokenIsFreshFirst();
        tokenAndVisitorGoRound();
        tokenNeedsSumZero();
        tokenNeedsToBeWhite();
        tokenNeedsAWhiteRoot();
        tokenStaysAtWhoIsBusy();
        weightIsHalved();
        mintAtOneAlone();
        mintOfAnotherNode();
        whoHasAWeightOfOne();
        mintsAreOfThisWork();
        poolFillsAsItComes();
        wavesNeedOneAhead();
        wavesNeedSentAsGot();
        wavesNeedAllFourAlike();
        eachKindOfRedLetter();
        recordedAheadOfTheLetter();
        crossing();
        showsTheEnd();
        aNewCut();
        aCutAndANewNode();
        ledgers();
        toldDoesNothingMore();
        lagIsToldLessTruth();
        boundsOfAllSizes();
        bestOfThoseThatHaveTold();
        weightsTogether();
        check.end();
    }

    private static WorkEnds small() {
        WorkEnds x = new WorkEnds();
        x.plan(0, 2, 1, 2);
        x.begin(3);
        return x;
    }

    private static void is(WorkEnds x, String call, int got, int want) {
        check.fine(x, call + " at " + x.many(2), got, want);
    }

    private static void nodeIs(WorkEnds x, int node, int what, int due) {
        check.fine(x, "node(" + node + ", " + what + ")", x.node(node, what), due);
    }

    private static void watchIs(WorkEnds x, int watch, int what, int due) {
        check.fine(x, "watch(" + watch + ", " + what + ")", x.watch(watch, what), due);
    }

    private static void cuttingIs(WorkEnds x, int... due) {
        for (int what = 0; what < due.length; what++) {
            check.fine(x, "cutting(" + what + ")", x.cutting(what), due[what]);
        }
    }

    private static void letterIs(WorkEnds x, int i, int... due) {
        for (int what = 0; what < due.length; what++) {
            check.fine(x, "letter(" + i + ", " + what + ")", x.letter(i, what), due[what]);
        }
    }

    /** The place of the first LETTER of that kind. */
    private static int firstOf(WorkEnds x, int kind) {
        int i = 0;
        while (x.letter(i, 0) != NONE && x.letter(i, 0) != kind) {
            i++;
        }
        return i;
    }

    // ---- WATCH 0

    // "A NODE OWES one more for each WORK LETTER it SENDS, one less for each ACK that comes."
    private static void owesMoreAndLess() {
        WorkEnds x = Texts.of("nodes 3;plan 0 1 1 3;plan 0 1 2 1;plan 0 2 1 1;");
        x.begin(2);
        int[] owes = {2, 3, 2, 1, 1, 0};
        int[] acks = {0, 1, 2, 2, 3, 3};
        int[] deep = {0, 1, 1, 1, 0, 0};
        for (int t = 1; t <= 6; t++) {
            x.tick(1);
            nodeIs(x, 0, 6, owes[t - 1]);
            nodeIs(x, 1, 6, 0);
            watchIs(x, 0, 4, owes[t - 1]);
            watchIs(x, 0, 1, acks[t - 1]);
            watchIs(x, 0, 5, deep[t - 1]);
            watchIs(x, 0, 0, t == 6 ? 6 : NONE);
        }
    }

    // "The ROOT is in the TREE as work BEGINS.", "who is in it sends an ACK for it at once"
    private static void rootIsInTheTree() {
        WorkEnds x = Texts.of("nodes 2;plan 0 1 1 1;plan 1 1 0 1;");
        x.begin(1);
        nodeIs(x, 0, 5, 1);
        nodeIs(x, 1, 5, 0);
        x.tick(3);
        nodeIs(x, 0, 3, 1);
        nodeIs(x, 0, 4, NONE);
        nodeIs(x, 0, 5, 1);
        letterIs(x, 0, 1, 0, 1, 1, 0, 0, 0, 0);
        watchIs(x, 0, 1, 1);
        x.tick(2);
        watchIs(x, 0, 0, 5);
        nodeIs(x, 0, 5, 1);
        x.tick(50);
        nodeIs(x, 0, 5, 1);
        nodeIs(x, 1, 5, 0);
    }

    // "In c): who is not the ROOT, is in the TREE and OWES 0, sends an ACK to its PARENT, and is not in it"
    private static void leavesTheTreeIdleOwingNothing() {
        // BUSY and owing nothing it stays.
        WorkEnds x = small();
        x.tick(3);
        nodeIs(x, 1, 0, 1);
        nodeIs(x, 1, 6, 0);
        nodeIs(x, 1, 5, 1);
        nodeIs(x, 1, 4, 0);
        nodeIs(x, 0, 10, 2);
        watchIs(x, 0, 1, 0);
        x.tick(1);
        nodeIs(x, 1, 5, 0);
        nodeIs(x, 1, 4, NONE);
        nodeIs(x, 0, 10, 0);
        letterIs(x, 0, 1, 1, 0, 1, 0, 0, 0, 0);
        x.tick(10);
        watchIs(x, 0, 1, 1);
        // IDLE and owing one it stays, too.
        x = Texts.of("nodes 2;plan 0 1 1 1;plan 1 1 0 1;wire 1 0 3;");
        x.begin(1);
        for (int t = 2; t <= 5; t++) {
            x.tick(t == 2 ? 2 : 1);
            nodeIs(x, 1, 0, 0);
            nodeIs(x, 1, 6, 1);
            nodeIs(x, 1, 5, 1);
            watchIs(x, 0, 1, t == 5 ? 1 : 0);
        }
        x.tick(1);
        nodeIs(x, 1, 6, 0);
        nodeIs(x, 1, 5, 0);
        watchIs(x, 0, 1, 2);
    }

    // "Who is not in the TREE and gets a WORK LETTER is in it, its PARENT who sent that"
    private static void parentIsWhoSentTheFirst() {
        WorkEnds x = Texts.of("nodes 3;plan 0 1 1 1;plan 0 3 2 1;plan 2 1 1 2;");
        x.begin(9);
        x.tick(2);
        // It was in the TREE within the TICK alone.
        nodeIs(x, 1, 3, 1);
        nodeIs(x, 1, 5, 0);
        nodeIs(x, 1, 4, NONE);
        x.tick(3);
        // Another PARENT this time.
        nodeIs(x, 1, 4, 2);
        nodeIs(x, 1, 5, 1);
        nodeIs(x, 2, 4, 0);
        nodeIs(x, 2, 10, 2);
        nodeIs(x, 0, 10, 4);
        watchIs(x, 0, 5, 2);
        watchIs(x, 0, 2, 3);
        x.tick(1);
        letterIs(x, firstOf(x, 1), 1, 1, 2);
    }

    // "the ROOT, if it OWES 0, has TOLD" (in c): who is IDLE)
    private static void rootTellsOwingNothing() {
        WorkEnds x = new WorkEnds();
        x.begin(5);
        for (int t = 1; t < 5; t++) {
            x.tick(1);
            watchIs(x, 0, 0, NONE);
        }
        x.tick(1);
        watchIs(x, 0, 0, 5);
        check.fine(x, "lag(0)", x.lag(0), 0);
        x = small();
        x.tick(3);
        nodeIs(x, 0, 0, 0);
        nodeIs(x, 0, 6, 1);
        watchIs(x, 0, 0, NONE);
        x.tick(1);
        watchIs(x, 0, 0, NONE);
        x.tick(1);
        watchIs(x, 0, 0, 5);
    }

    // Promise 11: "WATCH 0: the most that were in the TREE at the end of a TICK", "how deep the TREE is"
    private static void theMostInTheTree() {
        WorkEnds x = Texts.of("nodes 8;plan 0 1 1 9;plan 1 1 2 9;plan 2 1 3 9;plan 3 1 4 9;plan 4 1 5 9;plan 5 1 6 9;"
            + "plan 6 1 7 9;plan 7 1 0 1;");
        x.begin(1);
        watchIs(x, 0, 2, 0);
        for (int t = 1; t <= 8; t++) {
            x.tick(1);
            watchIs(x, 0, 2, t);
            watchIs(x, 0, 5, t - 1);
        }
        x.tick(100);
        watchIs(x, 0, 2, 8);
        watchIs(x, 0, 5, 0);
        x.begin(1);
        watchIs(x, 0, 2, 0);
        // Two that come and go within a TICK are in it at the end of none.
        x = Texts.of("nodes 3;plan 0 1 1 1;plan 0 1 2 1;");
        x.begin(1);
        x.tick(50);
        watchIs(x, 0, 2, 1);
    }

    // ---- WATCH 1 (and how the VISITOR goes)

    // "As work BEGINS .. the ROOT has the TOKEN, FRESH", "if the TOKEN is not FRESH"
    private static void tokenIsFreshFirst() {
        WorkEnds x = new WorkEnds();
        x.begin(1);
        watchIs(x, 1, 3, 0);
        x.tick(1);
        watchIs(x, 1, 0, NONE);
        watchIs(x, 1, 1, 1);
        watchIs(x, 1, 2, 1);
        watchIs(x, 1, 3, NONE);
        x.tick(1);
        watchIs(x, 1, 1, 2);
        x.tick(1);
        watchIs(x, 1, 0, 3);
        watchIs(x, 1, 1, 2);
        watchIs(x, 1, 2, 1);
        watchIs(x, 1, 3, 0);
    }

    // "to the NODE of the greatest number", "of the next lesser number"; "to NODE 1", "from the last one to the ROOT"
    private static void tokenAndVisitorGoRound() {
        for (int n = 2; n <= 8; n++) {
            WorkEnds x = Texts.of("nodes " + n + ";");
            x.begin(1);
            for (int t = 1; t <= n; t++) {
                x.tick(1);
                int token = firstOf(x, 2);
                check.fine(x, "the TOKEN from", x.letter(token, 1), (n - t + 1) % n);
                check.fine(x, "the TOKEN to", x.letter(token, 2), n - t);
                int visitor = firstOf(x, 4);
                check.fine(x, "the VISITOR from", x.letter(visitor, 1), t - 1);
                check.fine(x, "the VISITOR to", x.letter(visitor, 2), t % n);
                check.fine(x, "SIGNALS", x.many(7), 2);
                watchIs(x, 1, 0, NONE);
            }
            x.tick(1);
            watchIs(x, 1, 0, n + 1);
            watchIs(x, 1, 1, n);
            watchIs(x, 3, 0, NONE);
            watchIs(x, 3, 2, 2);
            x.tick(n - 1);
            watchIs(x, 3, 0, NONE);
            x.tick(1);
            watchIs(x, 3, 0, 2 * n + 1);
            watchIs(x, 3, 1, 2 * n);
            watchIs(x, 3, 2, 2);
            watchIs(x, 3, 3, 0);
        }
    }

    // "and SUM and its TALLY are 0 together"
    private static void tokenNeedsSumZero() {
        WorkEnds x = Texts.of("nodes 3;wire 0 1 9;plan 0 1 1 1;");
        x.begin(1);
        x.tick(3);
        nodeIs(x, 0, 8, 0);
        nodeIs(x, 0, 7, 1);
        watchIs(x, 1, 4, 0);
        watchIs(x, 1, 5, 0);
        x.tick(1);
        // White all round, but one is on its way yet.
        watchIs(x, 1, 0, NONE);
        watchIs(x, 1, 2, 2);
        x.tick(50);
        // A round more from TICK 13 on, as NODE 1 is BLACK in that of TICK 10.
        watchIs(x, 1, 0, 16);
        watchIs(x, 1, 2, 5);
        watchIs(x, 1, 4, -1);
    }

    // "its TALLY is added to the TOKEN's SUM, the TOKEN is BLACK if it is; it is white then"
    private static void tokenNeedsToBeWhite() {
        WorkEnds x = small();
        x.tick(3);
        nodeIs(x, 1, 8, 1);
        nodeIs(x, 1, 7, -1);
        x.tick(1);
        nodeIs(x, 1, 8, 0);
        nodeIs(x, 1, 7, -1);
        watchIs(x, 1, 4, -1);
        watchIs(x, 1, 5, 1);
        nodeIs(x, 0, 7, 1);
        x.tick(1);
        // SUM and TALLY are 0 together, but it is BLACK: a new round, white, SUM 0.
        watchIs(x, 1, 0, NONE);
        watchIs(x, 1, 2, 2);
        watchIs(x, 1, 4, 0);
        watchIs(x, 1, 5, 0);
        x.tick(2);
        watchIs(x, 1, 0, 7);
        watchIs(x, 1, 4, -1);
    }

    // "and neither it nor the ROOT is BLACK .. else it is white"
    private static void tokenNeedsAWhiteRoot() {
        WorkEnds x = Texts.of("nodes 3;wire 1 0 9;wire 0 1 3;plan 0 1 1 5;plan 1 1 0 1;");
        x.begin(1);
        x.tick(3);
        // The TOKEN went on from NODE 1, white; its WIRE is quicker for what it SENDS now.
        check.fine(x, "wires(1, 0, 1)", x.wires(1, 0, 1), 9);
        x.tick(8);
        nodeIs(x, 0, 8, 1);
        nodeIs(x, 0, 7, 0);
        watchIs(x, 1, 4, 0);
        watchIs(x, 1, 5, 0);
        x.tick(1);
        watchIs(x, 1, 3, NONE);
        watchIs(x, 1, 0, NONE);
        watchIs(x, 1, 2, 2);
        nodeIs(x, 0, 8, 0);
        x.tick(6);
        watchIs(x, 1, 0, 18);
        watchIs(x, 1, 2, 3);
    }

    // "c) Each NODE that is IDLE": who is BUSY keeps it
    private static void tokenStaysAtWhoIsBusy() {
        WorkEnds x = new WorkEnds();
        x.plan(0, 2, 1, 5);
        x.begin(3);
        x.tick(4);
        for (int t = 4; t <= 6; t++) {
            watchIs(x, 1, 3, 1);
            watchIs(x, 3, 3, 1);
            watchIs(x, 1, 1, 1);
            watchIs(x, 3, 1, 1);
            watchIs(x, 2, 1, 0);
            x.tick(1);
        }
        watchIs(x, 1, 3, NONE);
        watchIs(x, 3, 3, NONE);
        watchIs(x, 1, 1, 2);
        watchIs(x, 3, 1, 2);
        watchIs(x, 2, 1, 1);
    }

    // ---- WATCH 2

    private static WorkEnds sending(int rows, int load) {
        WorkEnds x = new WorkEnds();
        for (int i = 0; i < rows; i++) {
            x.plan(0, 1, 1, 1);
        }
        x.begin(load);
        x.tick(1);
        return x;
    }

    // "A WORK LETTER takes half of its sender's WEIGHT with it, rounded down"
    private static void weightIsHalved() {
        WorkEnds x = sending(40, 200);
        int[] those = {524288, 262144, 131072, 65536, 32768, 16384, 8192, 4096, 2048, 1024, 512, 256, 128, 64, 32, 16, 8,
            4, 2, 1, 512, 256, 128, 64, 32, 16, 8, 4, 2, 1, 1, 512, 256, 128, 64, 32, 16, 8, 4, 2};
        int all = 0;
        for (int i = 0; i < 40; i++) {
            check.fine(x, "letter(" + i + ", 5)", x.letter(i, 5), those[i]);
            all += those[i];
        }
        nodeIs(x, 0, 9, 3);
        check.fine(x, "weights(1)", x.weights(1), all);
        check.due("what is DUE", all + 3, 1048576 + 2048);
        x.tick(1);
        // "Who gets it has so much more"; NODE 1 is BUSY with the rest.
        nodeIs(x, 1, 9, all);
        check.fine(x, "weights(1)", x.weights(1), 0);
    }

    // "who has 1 gets 1,024 more first, as much more is DUE (a MINT: two SIGNALS that take no time)"
    private static void mintAtOneAlone() {
        int[] left = {1, 513, 257, 129, 65, 33, 17, 9, 5, 3, 2, 1, 513};
        for (int rows = 20; rows <= 32; rows++) {
            WorkEnds x = sending(rows, 200);
            int mints = rows < 21 ? 0 : rows < 32 ? 1 : 2;
            nodeIs(x, 0, 9, left[rows - 20]);
            watchIs(x, 2, 2, mints);
            watchIs(x, 2, 1, 2 * mints);
            watchIs(x, 2, 4, 1048576 + 1024 * mints);
            check.fine(x, "weights(3)", x.weights(3), 1048576 + 1024 * mints);
            check.fine(x, "SIGNALS on their way", x.many(7), 0);
            check.fine(x, "SIGNALS of the WIRE", x.ledger(0, 1, 1), 0);
            check.fine(x, "event(0, 0)", x.event(0, 0), mints > 0 ? 5 : 0);
            check.fine(x, "event(0, 2)", x.event(0, 2), mints > 0 ? 0 : 200);
            x.tick(300);
            watchIs(x, 2, 1, 2 * mints + 1);
            watchIs(x, 2, 5, 1048576 + 1024 * mints);
        }
    }

    // EVENTS: "5 a MINT .. the NODE"
    private static void mintOfAnotherNode() {
        WorkEnds x = new WorkEnds();
        x.plan(0, 1, 1, 20);
        for (int i = 0; i < 20; i++) {
            x.plan(1, 1, 0, 1);
        }
        x.begin(1);
        x.tick(1);
        nodeIs(x, 0, 9, 0);
        watchIs(x, 2, 5, 524288);
        x.tick(1);
        nodeIs(x, 1, 9, 513);
        watchIs(x, 2, 2, 1);
        watchIs(x, 2, 4, 1049600);
        check.fine(x, "event(0, 0)", x.event(0, 0), 5);
        check.fine(x, "event(0, 1)", x.event(0, 1), 2);
        check.fine(x, "event(0, 2)", x.event(0, 2), 1);
        x.tick(100);
        // What NODE 1 has comes to the ROOT as that does its last unit.
        watchIs(x, 2, 5, 1049600);
        check.fine(x, "lag(2)", x.lag(2), 0);
    }

    /** By that many ROWS to NODE 1 and one to NODE 2 the last LETTER takes 2 (18 ROWS) or 1 (19 ROWS) to NODE 2. */
    private static WorkEnds lightWeight(int rows, boolean sends) {
        WorkEnds x = Texts.of("nodes 3;");
        for (int i = 0; i < rows; i++) {
            x.plan(0, 1, 1, 1);
        }
        x.plan(0, 1, 2, 1);
        if (sends) {
            x.plan(2, 1, 1, 1);
        }
        x.begin(1);
        x.tick(1);
        check.fine(x, "what NODE 2 gets", x.letter(rows, 5), rows == 18 ? 2 : 1);
        x.tick(1);
        return x;
    }

    // "who has 1 gets 1,024 more first", "others send it to the ROOT"
    private static void whoHasAWeightOfOne() {
        // It is sent as any other.
        WorkEnds x = lightWeight(19, false);
        check.fine(x, "the WEIGHT's from", x.letter(firstOf(x, 3), 1), 2);
        check.fine(x, "the WEIGHT", x.letter(firstOf(x, 3), 5), 1);
        x.tick(1);
        watchIs(x, 2, 5, 2);
        x.tick(18);
        watchIs(x, 2, 0, 21);
        watchIs(x, 2, 1, 2);
        // A WORK LETTER of who has 1.
        x = lightWeight(19, true);
        watchIs(x, 2, 2, 1);
        watchIs(x, 2, 4, 1049600);
        check.fine(x, "what the LETTER takes", x.letter(firstOf(x, 0), 5), 512);
        check.fine(x, "what is left", x.letter(firstOf(x, 3), 5), 513);
        int mints = 0;
        for (int i = 0; i < 8; i++) {
            if (x.event(i, 0) == 5) {
                mints++;
                check.fine(x, "the NODE of the MINT", x.event(i, 2), 2);
                check.fine(x, "the TICK of the MINT", x.event(i, 1), 2);
            }
        }
        check.due("EVENTS of MINTS", mints, 1);
        // Who has 2 gives one, and keeps one.
        x = lightWeight(18, true);
        watchIs(x, 2, 2, 0);
        watchIs(x, 2, 4, 1048576);
        check.fine(x, "what the LETTER takes", x.letter(firstOf(x, 0), 5), 1);
        check.fine(x, "what is left", x.letter(firstOf(x, 3), 5), 1);
    }

    /** As work BEGINS no MINT was; a MARK keeps those that were. */
    private static void mintsAreOfThisWork() {
        WorkEnds x = sending(21, 1);
        x.mark();
        x.tick(50);
        watchIs(x, 2, 1, 3);
        watchIs(x, 2, 2, 1);
        x.begin(1);
        watchIs(x, 2, 1, 0);
        watchIs(x, 2, 2, 0);
        watchIs(x, 2, 4, 1048576);
        watchIs(x, 2, 5, 0);
        x.back();
        watchIs(x, 2, 1, 2);
        watchIs(x, 2, 2, 1);
        watchIs(x, 2, 4, 1049600);
        Texts.load(x, "nodes 2;");
        watchIs(x, 2, 1, 0);
        watchIs(x, 2, 2, 0);
        watchIs(x, 2, 4, 0);
    }

    // "the ROOT: it goes into the POOL; others send it .., which goes into the POOL as it comes. Behind that .."
    private static void poolFillsAsItComes() {
        WorkEnds x = new WorkEnds();
        x.plan(0, 1, 1, 1);
        x.begin(9);
        x.tick(2);
        nodeIs(x, 0, 9, 524288);
        nodeIs(x, 1, 9, 0);
        watchIs(x, 2, 5, 0);
        watchIs(x, 2, 1, 1);
        letterIs(x, firstOf(x, 3), 3, 1, 0, 1, 0, 524288, 0, 0);
        x.tick(1);
        // The ROOT is BUSY and keeps its own.
        watchIs(x, 2, 5, 524288);
        nodeIs(x, 0, 9, 524288);
        x.tick(5);
        watchIs(x, 2, 0, NONE);
        x.tick(1);
        watchIs(x, 2, 0, 9);
        watchIs(x, 2, 5, 1048576);
        watchIs(x, 2, 1, 1);
        nodeIs(x, 0, 9, 0);
        check.fine(x, "lag(2)", x.lag(2), 0);
        x = small();
        for (int t = 1; t < 5; t++) {
            x.tick(1);
            watchIs(x, 2, 0, NONE);
            watchIs(x, 2, 5, t < 3 ? 0 : 524288);
        }
        x.tick(1);
        watchIs(x, 2, 0, 5);
    }

    // ---- WATCH 3

    // "(it stays; there must be a WAVE ahead)"
    private static void wavesNeedOneAhead() {
        WorkEnds x = new WorkEnds();
        x.begin(1);
        watchIs(x, 3, 3, 0);
        int[] waves = {1, 1, 2, 2, 2};
        int[] at = {NONE, NONE, NONE, NONE, 0};
        for (int t = 1; t <= 5; t++) {
            x.tick(1);
            watchIs(x, 3, 0, t == 5 ? 5 : NONE);
            watchIs(x, 3, 2, waves[t - 1]);
            watchIs(x, 3, 3, at[t - 1]);
            watchIs(x, 3, 4, 0);
            watchIs(x, 3, 5, 0);
            watchIs(x, 3, 1, Math.min(t, 4));
        }
    }

    // "as SENT, as GOT .. alike"
    private static void wavesNeedSentAsGot() {
        WorkEnds x = Texts.of("nodes 3;wire 0 2 9;plan 0 1 2 1;");
        x.begin(1);
        int[] waves = {1, 1, 1, 2, 2, 2, 3, 3, 3, 4, 4, 4, 5, 5, 5, 5};
        for (int t = 1; t <= 16; t++) {
            x.tick(1);
            check.fine(x, "tells(3) at " + t, x.tells(3), 16 - t);
            watchIs(x, 3, 2, waves[t - 1]);
            watchIs(x, 3, 0, t == 16 ? 16 : NONE);
            watchIs(x, 3, 4, 1);
            watchIs(x, 3, 5, t == 12 || t == 15 || t == 16 ? 1 : 0);
        }
        watchIs(x, 3, 1, 15);
        check.fine(x, "lag(3)", x.lag(3), 6);
    }

    // "and what it counted in the WAVE ahead as SENT, as GOT are all four alike"
    private static void wavesNeedAllFourAlike() {
        WorkEnds x = Texts.of("nodes 3;wire 0 1 3;wire 1 2 9;plan 0 1 1 1;plan 1 1 2 1;");
        x.begin(2);
        x.tick(1);
        x.wires(0, 1, 1);
        x.tick(2);
        // The VISITOR was at NODE 1 ahead of the first LETTER, and comes to NODE 2 behind the second.
        x.wires(1, 2, 1);
        x.tick(9);
        watchIs(x, 3, 4, 1);
        watchIs(x, 3, 5, 1);
        x.tick(3);
        watchIs(x, 3, 4, 2);
        watchIs(x, 3, 5, 2);
        x.tick(1);
        watchIs(x, 3, 0, NONE);
        watchIs(x, 3, 2, 3);
        x.tick(3);
        watchIs(x, 3, 0, 19);
        watchIs(x, 3, 2, 3);
    }

    // ---- a CUT

    // "A LETTER of any kind is RED, if its sender is as it sends it."
    private static void eachKindOfRedLetter() {
        // WORK.
        WorkEnds x = small();
        x.cut(0);
        x.tick(2);
        letterIs(x, 0, 0, 0, 1, 1, 2, 524288, 1, 1);
        nodeIs(x, 1, 13, 0);
        x.tick(1);
        nodeIs(x, 1, 13, 1);
        // TOKEN to NODE 2, VISITOR to NODE 1.
        x = Texts.of("nodes 3;wire 0 1 2;");
        x.begin(1);
        x.cut(0);
        x.tick(1);
        check.fine(x, "the TOKEN is RED", x.letter(firstOf(x, 2), 7), 1);
        check.fine(x, "the VISITOR is RED", x.letter(firstOf(x, 4), 7), 1);
        cuttingIs(x, 1, 0);
        x.tick(1);
        cuttingIs(x, 5, 0);
        x.tick(1);
        cuttingIs(x, 7, 1);
        // ACK to NODE 2, WEIGHT to the ROOT.
        x = Texts.of("nodes 3;wire 1 0 3;plan 0 1 2 9;plan 2 1 1 2;");
        x.begin(9);
        x.tick(3);
        x.cut(1);
        x.tick(1);
        letterIs(x, 0, 1, 1, 2, 1, 0, 0, 0, 1);
        check.fine(x, "the WEIGHT is RED", x.letter(firstOf(x, 3), 7), 1);
        cuttingIs(x, 2, 0);
        x.tick(1);
        cuttingIs(x, 6, 0);
        x.tick(1);
        cuttingIs(x, 6, 0);
        x.tick(1);
        cuttingIs(x, 7, 1);
        check.fine(x, "cutting(8)", x.cutting(8), 7);
        // What was sent ahead of that stays as it is.
        x = small();
        x.tick(2);
        x.cut(0);
        check.fine(x, "letter(0, 7)", x.letter(0, 7), 0);
        x.tick(1);
        nodeIs(x, 1, 13, 0);
    }

    // "As a RED LETTER comes to a NODE that is not RED, that NODE turns RED first", "what it has then is RECORDED"
    private static void recordedAheadOfTheLetter() {
        WorkEnds x = small();
        x.cut(0);
        check.fine(x, "recorded(0, 0)", x.recorded(0, 0), 3);
        check.fine(x, "recorded(0, 1)", x.recorded(0, 1), 0);
        check.refused(x, "recorded(1, 0)", x.recorded(1, 0), 5);
        x.tick(3);
        // Its LOAD of 2 and that it GOT it are not in what is RECORDED.
        for (int what = 0; what < 3; what++) {
            check.fine(x, "recorded(1, " + what + ")", x.recorded(1, what), 0);
        }
        cuttingIs(x, 3, 1, 3, 0, 0, 0, 0, 0, 3);
        x.tick(20);
        // Who is RED keeps what was RECORDED.
        check.fine(x, "recorded(0, 0)", x.recorded(0, 0), 3);
        cuttingIs(x, 3, 1, 3, 0, 0, 0, 0, 0, 3);
        x = small();
        x.tick(3);
        x.cut(1);
        x.tick(2);
        int[][] due = {{0, 1, 0}, {1, 0, 1}};
        for (int i = 0; i < 2; i++) {
            for (int what = 0; what < 3; what++) {
                check.fine(x, "recorded(" + i + ", " + what + ")", x.recorded(i, what), due[i][what]);
            }
        }
        cuttingIs(x, 3, 1, 1, 1, 1, 0, 0, 0, 5);
    }

    // "A WORK LETTER that is not RED and comes to a RED NODE CROSSES."
    private static void crossing() {
        WorkEnds x = Texts.of("nodes 2;wire 0 1 3;plan 0 1 1 4;plan 0 2 1 5;plan 0 3 1 20;");
        x.begin(9);
        x.tick(2);
        x.cut(1);
        cuttingIs(x, 2, 0, 0, 0, 0, 0, 0, 0, NONE);
        x.tick(2);
        cuttingIs(x, 2, 0, 0, 0, 0, 1, 4);
        x.tick(1);
        cuttingIs(x, 2, 0, 0, 0, 0, 2, 9);
        x.tick(1);
        // That which the ROOT sent at TICK 3, not RED either, CROSSES, too; an ACK makes the ROOT RED.
        cuttingIs(x, 3, 1, 4, 3, 0, 3, 29, 0, 6);
        // A RED one that comes to a RED NODE does not; nor does a SIGNAL.
        x = Texts.of("nodes 2;plan 0 1 1 9;plan 0 3 1 9;");
        x.begin(5);
        x.cut(0);
        x.tick(5);
        cuttingIs(x, 3, 1, 5, 0, 0, 0, 0, 0, 2);
        x = small();
        x.tick(4);
        x.cut(0);
        x.tick(1);
        check.fine(x, "cutting(5)", x.cutting(5), 0);
        // Nor does one that is not RED and comes to a NODE that is not.
        x = small();
        x.tick(2);
        x.cut(0);
        x.tick(1);
        check.fine(x, "cutting(5)", x.cutting(5), 0);
    }

    // "it SHOWS the end, if it is WHOLE, no WORK is RECORDED, and as many are RECORDED as SENT as are as GOT"
    private static void showsTheEnd() {
        WorkEnds x = small();
        x.tick(4);
        x.cut(0);
        cuttingIs(x, 1, 0, 0, 1, 0, 0, 0, 0, NONE);
        x.tick(1);
        cuttingIs(x, 1, 0, 0, 1, 0, 0, 0, 0, NONE);
        x.tick(1);
        cuttingIs(x, 3, 1, 0, 1, 1, 0, 0, 1, 6);
        // No WORK, nothing SENT or GOT, but not WHOLE.
        x = new WorkEnds();
        x.begin(1);
        x.tick(300);
        x.cut(0);
        x.tick(300);
        cuttingIs(x, 1, 0, 0, 0, 0, 0, 0, 0, NONE);
        // WHOLE, no WORK, but one SENT is not GOT.
        x = new WorkEnds();
        x.plan(0, 1, 1, 1);
        x.wires(0, 1, 9);
        x.begin(2);
        x.tick(1);
        x.wires(0, 1, 1);
        x.tick(1);
        x.cut(0);
        x.tick(3);
        cuttingIs(x, 3, 1, 0, 1, 0, 0, 0, 0, 5);
        x.tick(5);
        cuttingIs(x, 3, 1, 0, 1, 0, 1, 1, 0, 5);
        // WHOLE, as many GOT as SENT, but WORK.
        x = new WorkEnds();
        x.begin(1);
        x.cut(0);
        x.tick(2);
        cuttingIs(x, 3, 1, 1, 0, 0, 0, 0, 0, 2);
    }

    // "With a new CUT, and as work BEGINS, nobody, no LETTER is RED first."
    private static void aNewCut() {
        WorkEnds x = small();
        check.fine(x, "cut(0)", x.cut(0), 1);
        x.tick(4);
        check.fine(x, "a RED LETTER", x.letter(0, 7), 1);
        check.fine(x, "cut(1)", x.cut(1), 2);
        nodeIs(x, 0, 13, 0);
        nodeIs(x, 1, 13, 1);
        for (int i = 0; i < 4; i++) {
            check.fine(x, "letter(" + i + ", 7)", x.letter(i, 7), 0);
        }
        check.refused(x, "recorded(0, 0)", x.recorded(0, 0), 5);
        cuttingIs(x, 2, 0, 0, 0, 1, 0, 0, 0, NONE);
        check.fine(x, "cut(1) again", x.cut(1), 3);
        cuttingIs(x, 2, 0, 0, 0, 1, 0, 0, 0, NONE);
        x.begin(2);
        nodeIs(x, 1, 13, 0);
        check.refused(x, "cutting(0)", x.cutting(0), 5);
        check.refused(x, "recorded(1, 0)", x.recorded(1, 0), 5);
        check.fine(x, "cut(1): how many did since work BEGAN", x.cut(1), 1);
        // What CROSSED belongs to the CUT ahead.
        x = small();
        x.tick(2);
        x.cut(1);
        x.tick(1);
        cuttingIs(x, 2, 0, 0, 0, 0, 1, 2);
        x.cut(0);
        cuttingIs(x, 1, 0, 0, 1, 0, 0, 0);
    }

    // Promise 25: "nobody is RED then, and the CUT not WHOLE; what CROSSED stays"
    private static void aCutAndANewNode() {
        WorkEnds x = small();
        x.tick(2);
        x.cut(1);
        x.tick(50);
        check.fine(x, "it is WHOLE", x.cutting(1), 1);
        check.holds("in that TICK", x.cutting(8) > 0);
        check.fine(x, "add()", x.add(), 2);
        cuttingIs(x, 0, 0, 0, 0, 0, 1, 2, 0, NONE);
        for (int i = 0; i < 3; i++) {
            nodeIs(x, i, 13, 0);
            check.refused(x, "recorded(" + i + ", 0)", x.recorded(i, 0), 5);
        }
        int[] due = {0, 0, 0, 0, NONE, 0, 0, 0, 0, 0, 0, 0, 0, 0};
        for (int what = 0; what < due.length; what++) {
            nodeIs(x, 2, what, due[what]);
        }
        check.fine(x, "cut(2)", x.cut(2), 2);
        cuttingIs(x, 4, 0, 0, 0, 0, 0, 0, 0, NONE);
        // One that SLEPT where the new NODE comes, ahead of a new TEXT, does not any more.
        x = Texts.of("nodes 3;wire 0 2 5;wire 2 1 6;");
        x.sleep(2, 50);
        Texts.load(x, "nodes 2;");
        check.fine(x, "add()", x.add(), 2);
        nodeIs(x, 2, 12, 0);
        check.fine(x, "wire(0, 2)", x.wire(0, 2), 1);
        check.fine(x, "wire(2, 1)", x.wire(2, 1), 1);
    }

    // ---- ledgers, LAGS, BOUNDS

    private static void ledgerIs(WorkEnds x, int from, int to, int... due) {
        for (int what = 0; what < 4; what++) {
            is(x, "ledger(" + from + ", " + to + ", " + what + ")", x.ledger(from, to, what), due[what]);
        }
    }

    // "LEDGER of a WIRE, since work BEGAN: .."
    private static void ledgers() {
        // One a TICK by a WIRE of 1: at the end of each TICK one is on its way.
        WorkEnds x = Texts.of("nodes 2;plan 0 1 1 20;plan 0 2 1 1;plan 0 3 1 1;");
        x.begin(9);
        int[][] due = {{1, 0, 1, 1}, {2, 0, 2, 1}, {3, 0, 3, 1}, {3, 0, 3, 1}};
        int[][] back = {{0, 0, 0, 0}, {0, 0, 0, 0}, {0, 1, 1, 1}, {0, 2, 2, 1}};
        for (int t = 0; t < 4; t++) {
            x.tick(1);
            ledgerIs(x, 0, 1, due[t]);
            ledgerIs(x, 1, 0, back[t]);
        }
        // By a WIRE of 2 there are two; TICKS as they were sent; the most stays.
        x = Texts.of("nodes 2;wire 0 1 2;plan 0 1 1 20;plan 0 2 1 1;plan 0 3 1 1;plan 0 4 1 1;");
        x.begin(9);
        x.tick(1);
        ledgerIs(x, 0, 1, 1, 0, 2, 1);
        x.tick(2);
        ledgerIs(x, 0, 1, 3, 0, 6, 2);
        x.wires(0, 1, 9);
        ledgerIs(x, 0, 1, 3, 0, 6, 2);
        x.tick(1);
        ledgerIs(x, 0, 1, 4, 0, 15, 2);
        x.tick(4);
        ledgerIs(x, 0, 1, 4, 0, 15, 2);
        x.tick(1);
        // The IDLE ROOT's TOKEN and VISITOR: with the slow one three.
        ledgerIs(x, 0, 1, 4, 2, 33, 3);
        // Of each WIRE its own: so many LETTERS as the numbers say, no two WIRES alike.
        x = Texts.of("nodes 8;");
        int sent = 0;
        for (int i = 1; i < 8; i++) {
            for (int k = 0; k < i; k++) {
                x.plan(0, 1, i, 1);
                sent++;
            }
        }
        x.begin(2);
        x.tick(1);
        check.fine(x, "SENT", x.many(8), sent);
        for (int i = 1; i < 8; i++) {
            ledgerIs(x, 0, i, i, 0, i, i);
            ledgerIs(x, i, 0, 0, 0, 0, 0);
        }
        x = Texts.of("nodes 3;plan 0 1 1 1;plan 0 1 2 1;wire 0 2 3;");
        x.begin(2);
        x.tick(1);
        ledgerIs(x, 0, 1, 1, 0, 1, 1);
        ledgerIs(x, 0, 2, 1, 0, 3, 1);
        ledgerIs(x, 1, 0, 0, 0, 0, 0);
        ledgerIs(x, 2, 0, 0, 0, 0, 0);
        ledgerIs(x, 1, 2, 0, 0, 0, 0);
        // As work BEGINS anew, with LETTERS on their way: none of it is left.
        x.tick(300);
        x.begin(1);
        for (int a = 0; a < 3; a++) {
            for (int b = 0; b < 3; b++) {
                if (a != b) {
                    ledgerIs(x, a, b, 0, 0, 0, 0);
                }
            }
        }
        x = small();
        x.tick(4);
        x.begin(1);
        ledgerIs(x, 1, 0, 0, 0, 0, 0);
        x.tick(20);
        ledgerIs(x, 1, 0, 0, 3, 3, 2);
        ledgerIs(x, 0, 1, 0, 3, 3, 2);
    }

    // "A WATCH that has TOLD does nothing more in c). TOLD is the TICK."
    private static void toldDoesNothingMore() {
        WorkEnds x = small();
        x.tick(7);
        int[] told = {5, 7, 5, 7};
        int[] signals = {1, 4, 1, 4};
        int[] begun = {2, 2, 0, 2};
        for (int later = 0; later < 2; later++) {
            for (int w = 0; w < 4; w++) {
                watchIs(x, w, 0, told[w]);
                watchIs(x, w, 1, signals[w]);
                watchIs(x, w, 2, begun[w]);
                check.fine(x, "tells(" + w + ")", x.tells(w), 0);
            }
            check.fine(x, "SIGNALS on their way", x.many(7), 0);
            check.fine(x, "event(0, 0)", x.event(0, 0), 4);
            check.fine(x, "event(0, 1)", x.event(0, 1), 7);
            x.tick(300);
        }
    }

    // "LAG: TOLD less TRUTH.", promise 12: "(2; 5: it has not TOLD)"
    private static void lagIsToldLessTruth() {
        WorkEnds x = small();
        int[] told = {5, 7, 5, 7};
        for (int t = 1; t <= 8; t++) {
            x.tick(1);
            for (int w = 0; w < 4; w++) {
                if (t < told[w]) {
                    check.refused(x, "lag(" + w + ")", x.lag(w), 5);
                } else {
                    check.fine(x, "lag(" + w + ")", x.lag(w), told[w] - 4);
                }
                check.fine(x, "tells(" + w + ")", x.tells(w), Math.max(0, told[w] - t));
            }
        }
        check.refused(x, "lag(-1)", x.lag(-1), 2);
        check.refused(x, "lag(4)", x.lag(4), 2);
        // As short as can be: 0.
        x = new WorkEnds();
        x.begin(1);
        x.tick(1);
        check.fine(x, "lag(0)", x.lag(0), 0);
        check.fine(x, "lag(2)", x.lag(2), 0);
    }

    // "BOUND of a WATCH, by the WIRES as they are: .."
    private static void boundsOfAllSizes() {
        for (int n = 2; n <= 8; n++) {
            WorkEnds x = Texts.of("nodes " + n + ";");
            int[] due = {n, 3 * n, 1, 3 * n};
            for (int w = 0; w < 4; w++) {
                check.fine(x, "bound(" + w + ") of " + n, x.bound(w), due[w]);
            }
            for (int a = 0; a < n; a++) {
                for (int b = 0; b < n; b++) {
                    if (a != b) {
                        check.fine(x, "wires()", x.wires(a, b, 9), 1);
                        check.fine(x, "bound(0)", x.bound(0), 9 * n);
                        check.fine(x, "bound(1)", x.bound(1), 3 * n + (b == (a + n - 1) % n ? 24 : 0));
                        check.fine(x, "bound(2)", x.bound(2), b == 0 ? 9 : 1);
                        check.fine(x, "bound(3)", x.bound(3), 3 * n + (b == (a + 1) % n ? 24 : 0));
                        check.fine(x, "wires()", x.wires(a, b, 1), 9);
                    }
                }
            }
            check.refused(x, "bound(-1)", x.bound(-1), 2);
            check.refused(x, "bound(4)", x.bound(4), 2);
        }
        // As they are: new WIRES and NODES change it at once, work or not.
        WorkEnds x = small();
        x.wires(1, 0, 7);
        int[] due = {14, 24, 7, 24};
        for (int w = 0; w < 4; w++) {
            check.fine(x, "bound(" + w + ")", x.bound(w), due[w]);
        }
        x.tick(100);
        x.add();
        int[] then = {21, 27, 7, 9};
        for (int w = 0; w < 4; w++) {
            check.fine(x, "bound(" + w + ") of three", x.bound(w), then[w]);
        }
    }

    // Promise 14: "of those that have TOLD; of several the first (1; 5: none has)"
    private static void bestOfThoseThatHaveTold() {
        WorkEnds x = small();
        for (int t = 0; t < 5; t++) {
            check.refused(x, "best(0)", x.best(0), 5);
            check.refused(x, "best(1)", x.best(1), 5);
            check.refused(x, "best(2)", x.best(2), 1);
            x.tick(1);
        }
        // TREE and WEIGHT are both 1 late, with one SIGNAL each.
        check.fine(x, "best(0)", x.best(0), 0);
        check.fine(x, "best(1)", x.best(1), 0);
        // ACKS take long, so the WEIGHT is first alone: by LAG, and by SIGNALS of those that have TOLD.
        x = Texts.of("nodes 3;plan 0 1 1 9;plan 1 1 2 1;plan 1 2 2 1;plan 1 3 2 1;wire 2 1 9;");
        x.begin(1);
        int w = NONE;
        for (int t = 0; t < 300 && w == NONE; t++) {
            x.tick(1);
            w = x.best(1);
        }
        check.due("the first that TOLD", w, 2);
        check.fine(x, "best(0)", x.best(0), 2);
        x.tick(100);
        int few = 0;
        int least = 0;
        for (w = 1; w < 4; w++) {
            few = x.watch(w, 1) < x.watch(few, 1) ? w : few;
            least = x.lag(w) < x.lag(least) ? w : least;
        }
        check.fine(x, "best(1)", x.best(1), few);
        check.fine(x, "best(0)", x.best(0), least);
    }

    // Promise 15: "at NODES together, .. in LETTERS together, .. in the POOL, .. DUE"
    private static void weightsTogether() {
        WorkEnds x = new WorkEnds();
        for (int what = 0; what < 4; what++) {
            check.fine(x, "weights(" + what + ") ahead of any work", x.weights(what), 0);
        }
        x = small();
        int[][] due = {{1048576, 0, 0}, {1048576, 0, 0}, {524288, 524288, 0}, {524288, 0, 524288}, {0, 524288, 524288},
            {0, 0, 1048576}};
        for (int t = 0; t < 6; t++) {
            for (int what = 0; what < 3; what++) {
                is(x, "weights(" + what + ")", x.weights(what), due[t][what]);
            }
            check.fine(x, "weights(3)", x.weights(3), 1048576);
            x.tick(1);
        }
        check.refused(x, "weights(-1)", x.weights(-1), 1);
        check.refused(x, "weights(4)", x.weights(4), 1);
    }
}
