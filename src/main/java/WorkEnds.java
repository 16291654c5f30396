import java.util.Arrays;

/** Nodes that work and send work to one another, and four watches that tell when all of it has ended. */
public final class WorkEnds {
    public static final int NONE = -1;

    private static final int MOST_NODES = 8;
    private static final int MOST_ROWS = 40;
    private static final int MOST_MARKS = 3;
    private static final int MOST_TICKS = 9;
    private static final int MOST_AFTER = 200;
    private static final int MOST_LOAD = 20;
    private static final int MOST_BEGIN = 200;
    private static final int MOST_SLEEP = 50;
    private static final int MOST_PASS = 300;
    private static final int MOST_CUT_TICKS = 2000;
    // Far above what any run needs: all work that 512 calls can bring is some 12,000 units.
    private static final int MOST_PAPER_TICKS = 1000000;

    private static final int WATCHES = 4;
    private static final int TREE = 0;
    private static final int TOKEN = 1;
    private static final int WEIGHT = 2;
    private static final int WAVES = 3;

    private static final int WORK_LETTER = 0;
    private static final int ACK_LETTER = 1;
    private static final int TOKEN_LETTER = 2;
    private static final int WEIGHT_LETTER = 3;
    private static final int VISITOR_LETTER = 4;

    private static final int BEGAN_EVENT = 0;
    private static final int BUSY_EVENT = 1;
    private static final int IDLE_EVENT = 2;
    private static final int TRUTH_EVENT = 3;
    private static final int TOLD_EVENT = 4;
    private static final int MINT_EVENT = 5;
    private static final int ROUND_EVENT = 6;

    private static final int FINE = 0;
    private static final int BAD_NUMBER = 1;
    private static final int NO_SUCH = 2;
    private static final int ONE_TOO_MANY = 3;
    private static final int SAME_NODE = 4;
    private static final int NOT_THERE = 5;
    private static final int WORK_GOES_ON = 6;
    private static final int NOT_BEGUN = 7;
    private static final int NEVER = 8;
    private static final int FAULTY = 9;

    private final Tape tape;
    private final World now;
    private final World paper;
    private final World[] marks;
    private int markCount;
    private int code;

    public WorkEnds() {
        tape = new Tape();
        now = new World();
        paper = new World();
        marks = new World[MOST_MARKS];
        for (int i = 0; i < MOST_MARKS; i++) {
            marks[i] = new World();
        }
        code = FINE;
    }

    public int status() {
        return code;
    }

    public int feed(int a, int b, int c, int d, int e) {
        if (!tape.hasRoomFor(20)) {
            return NONE;
        }
        tape.put(a);
        tape.put(b);
        tape.put(c);
        tape.put(d);
        tape.put(e);
        return tape.filled;
    }

    public int load(int n) {
        if (n < 0 || n > tape.filled) {
            return refuse(BAD_NUMBER);
        }
        if (!tape.read(n, paper)) {
            return refuse(FAULTY);
        }
        now.copyFrom(paper);
        return answer(now.count);
    }

    public int fault(int what) {
        if (what == 0) {
            return tape.faultKind;
        }
        return what == 1 ? tape.faultPlace : NONE;
    }

    // ---- what there is

    public int many(int what) {
        if (!isWithin(what, 0, 11)) {
            return refuse(BAD_NUMBER);
        }
        return answer(what == 11 ? markCount : now.overall(what));
    }

    public int node(int node, int what) {
        if (!isWithin(what, 0, 13)) {
            return refuse(BAD_NUMBER);
        }
        if (!now.hasNode(node)) {
            return refuse(NO_SUCH);
        }
        return answer(now.ofNode(node, what));
    }

    public int wire(int from, int to) {
        int why = pairStatus(from, to);
        if (why != FINE) {
            return refuse(why);
        }
        return answer(now.wires[wireOf(from, to)]);
    }

    public int row(int row, int what) {
        if (row < 0 || !isWithin(what, 0, 3)) {
            return refuse(BAD_NUMBER);
        }
        if (row >= now.plan.count) {
            return refuse(NOT_THERE);
        }
        return answer(now.plan.part(row, what));
    }

    public int letter(int i, int what) {
        if (i < 0 || !isWithin(what, 0, 7)) {
            return refuse(BAD_NUMBER);
        }
        if (i >= now.letters.count) {
            return refuse(NOT_THERE);
        }
        int part = now.letters.part(i, what);
        return answer(what == Letters.DUE ? part - now.tick : part);
    }

    public int watch(int watch, int what) {
        if (!isWithin(what, 0, 5)) {
            return refuse(BAD_NUMBER);
        }
        if (!isWatch(watch)) {
            return refuse(NO_SUCH);
        }
        return answer(now.ofWatch(watch, what));
    }

    public int lag(int watch) {
        if (!isWatch(watch)) {
            return refuse(NO_SUCH);
        }
        if (!now.watches.hasTold(watch)) {
            return refuse(NOT_THERE);
        }
        return answer(now.lagOf(watch));
    }

    public int bound(int watch) {
        if (!isWatch(watch)) {
            return refuse(NO_SUCH);
        }
        return answer(now.boundOf(watch));
    }

    public int best(int what) {
        if (!isWithin(what, 0, 1)) {
            return refuse(BAD_NUMBER);
        }
        int found = what == 0 ? now.leastLate() : now.watches.fewestSignals();
        return found == NONE ? refuse(NOT_THERE) : answer(found);
    }

    public int weights(int what) {
        if (!isWithin(what, 0, 3)) {
            return refuse(BAD_NUMBER);
        }
        return answer(now.weighed(what));
    }

    public int last(int what) {
        if (!isWithin(what, 0, 3)) {
            return refuse(BAD_NUMBER);
        }
        if (!now.hasLastLetter()) {
            return refuse(NOT_THERE);
        }
        return answer(now.ofLastLetter(what));
    }

    public int ledger(int from, int to, int what) {
        if (!isWithin(what, 0, 3)) {
            return refuse(BAD_NUMBER);
        }
        int why = pairStatus(from, to);
        if (why != FINE) {
            return refuse(why);
        }
        return answer(now.ledger.part(wireOf(from, to), what));
    }

    public int cutting(int what) {
        if (!isWithin(what, 0, 8)) {
            return refuse(BAD_NUMBER);
        }
        if (now.cuts == 0) {
            return refuse(NOT_THERE);
        }
        return answer(now.ofCut(what));
    }

    public int recorded(int node, int what) {
        if (!isWithin(what, 0, 2)) {
            return refuse(BAD_NUMBER);
        }
        if (!now.hasNode(node)) {
            return refuse(NO_SUCH);
        }
        if (!now.nodes[node].red) {
            return refuse(NOT_THERE);
        }
        return answer(now.nodes[node].recordOf(what));
    }

    public int event(int i, int what) {
        if (!isWithin(i, 0, Events.ROOM - 1) || !isWithin(what, 0, 2)) {
            return refuse(BAD_NUMBER);
        }
        if (i >= now.events.count) {
            return refuse(NOT_THERE);
        }
        return answer(now.events.part(i, what));
    }

    // ---- what is done

    public int begin(int load) {
        int why = startStatus(load, TREE);
        if (why != FINE) {
            return refuse(why);
        }
        now.start(load);
        return answer(now.tick);
    }

    public int plan(int node, int after, int to, int load) {
        if (!isWithin(after, 1, MOST_AFTER) || !isWithin(load, 1, MOST_LOAD)) {
            return refuse(BAD_NUMBER);
        }
        if (!now.hasNode(node) || !now.hasNode(to)) {
            return refuse(NO_SUCH);
        }
        if (now.plan.count >= MOST_ROWS) {
            return refuse(ONE_TOO_MANY);
        }
        if (node == to) {
            return refuse(SAME_NODE);
        }
        now.plan.append(node, after, to, load);
        return answer(now.plan.count - 1);
    }

    public int drop(int row) {
        if (row < 0) {
            return refuse(BAD_NUMBER);
        }
        if (row >= now.plan.count) {
            return refuse(NOT_THERE);
        }
        now.plan.takeOut(row);
        return answer(now.plan.count);
    }

    public int wires(int from, int to, int ticks) {
        if (!isWithin(ticks, 1, MOST_TICKS)) {
            return refuse(BAD_NUMBER);
        }
        int why = pairStatus(from, to);
        if (why != FINE) {
            return refuse(why);
        }
        int wire = wireOf(from, to);
        int before = now.wires[wire];
        now.wires[wire] = ticks;
        return answer(before);
    }

    public int add() {
        if (now.count >= MOST_NODES) {
            return refuse(ONE_TOO_MANY);
        }
        if (now.letters.signals() > 0) {
            return refuse(NOT_THERE);
        }
        if (now.isWorking()) {
            return refuse(WORK_GOES_ON);
        }
        now.growByOne();
        return answer(now.count - 1);
    }

    public int sleep(int node, int ticks) {
        if (!isWithin(ticks, 0, MOST_SLEEP)) {
            return refuse(BAD_NUMBER);
        }
        if (!now.hasNode(node)) {
            return refuse(NO_SUCH);
        }
        int before = now.nodes[node].asleep;
        now.nodes[node].asleep = ticks;
        return answer(before);
    }

    public int cut(int node) {
        int why = cutStatus(node);
        if (why != FINE) {
            return refuse(why);
        }
        now.startCut(node);
        return answer(now.cuts);
    }

    public int tick(int many) {
        if (!isWithin(many, 1, MOST_PASS)) {
            return refuse(BAD_NUMBER);
        }
        for (int i = 0; i < many; i++) {
            now.pass();
        }
        return answer(now.tick);
    }

    public int mark() {
        if (markCount >= MOST_MARKS) {
            return refuse(ONE_TOO_MANY);
        }
        marks[markCount].copyFrom(now);
        markCount++;
        return answer(markCount);
    }

    public int back() {
        if (markCount <= 0) {
            return refuse(NOT_THERE);
        }
        markCount--;
        now.copyFrom(marks[markCount]);
        return answer(markCount);
    }

    // ---- ON PAPER

    public int ends() {
        if (now.began == NONE) {
            return refuse(NOT_BEGUN);
        }
        paper.copyFrom(now);
        paper.passUntilTruth();
        return answer(paper.tick - now.tick);
    }

    public int tells(int watch) {
        if (!isWatch(watch)) {
            return refuse(NO_SUCH);
        }
        if (now.began == NONE) {
            return refuse(NOT_BEGUN);
        }
        paper.copyFrom(now);
        paper.passUntilTold(watch);
        return answer(paper.tick - now.tick);
    }

    public int whole(int node) {
        int why = cutStatus(node);
        if (why != FINE) {
            return refuse(why);
        }
        paper.copyFrom(now);
        paper.startCut(node);
        paper.passUntilWhole();
        return paper.isWhole() ? answer(paper.tick - now.tick) : refuse(NEVER);
    }

    public int would(int load, int watch, int what) {
        if (!isWithin(what, 0, 3)) {
            return refuse(BAD_NUMBER);
        }
        int why = startStatus(load, watch);
        if (why != FINE) {
            return refuse(why);
        }
        startOnPaper(load);
        paper.passUntilTold(watch);
        switch (what) {
            case 0: return answer(paper.truth - now.tick);
            case 1: return answer(paper.watches.told[watch] - now.tick);
            case 2: return answer(paper.lagOf(watch));
            default: return answer(paper.watches.signals[watch]);
        }
    }

    public int with(int load, int watch, int from, int to, int ticks) {
        if (!isWithin(load, 1, MOST_BEGIN) || !isWithin(ticks, 1, MOST_TICKS)) {
            return refuse(BAD_NUMBER);
        }
        if (!isWatch(watch)) {
            return refuse(NO_SUCH);
        }
        int why = pairStatus(from, to);
        if (why != FINE) {
            return refuse(why);
        }
        if (now.isWorking()) {
            return refuse(WORK_GOES_ON);
        }
        startOnPaper(load);
        paper.wires[wireOf(from, to)] = ticks;
        paper.passUntilTold(watch);
        return answer(paper.lagOf(watch));
    }

    public int margin(int load, int watch) {
        int why = startStatus(load, watch);
        if (why != FINE) {
            return refuse(why);
        }
        startOnPaper(load);
        paper.passUntilTold(watch);
        return answer(paper.boundOf(watch) - paper.lagOf(watch));
    }

    public int quickest(int load) {
        int why = startStatus(load, TREE);
        if (why != FINE) {
            return refuse(why);
        }
        startOnPaper(load);
        for (int watch = 0; watch < WATCHES; watch++) {
            paper.passUntilTold(watch);
        }
        return answer(paper.leastLate());
    }

    public int enough() {
        if (now.isWorking()) {
            return refuse(WORK_GOES_ON);
        }
        return answer(now.plan.leastLoad());
    }

    // ---- the face's helpers

    private int answer(int value) {
        code = FINE;
        return value;
    }

    private int refuse(int why) {
        code = why;
        return NONE;
    }

    private int pairStatus(int from, int to) {
        if (!now.hasNode(from) || !now.hasNode(to)) {
            return NO_SUCH;
        }
        return from == to ? SAME_NODE : FINE;
    }

    private int startStatus(int load, int watch) {
        if (!isWithin(load, 1, MOST_BEGIN)) {
            return BAD_NUMBER;
        }
        if (!isWatch(watch)) {
            return NO_SUCH;
        }
        return now.isWorking() ? WORK_GOES_ON : FINE;
    }

    private int cutStatus(int node) {
        if (!now.hasNode(node)) {
            return NO_SUCH;
        }
        return now.began == NONE ? NOT_BEGUN : FINE;
    }

    private void startOnPaper(int load) {
        paper.copyFrom(now);
        paper.start(load);
    }

    private static boolean isWithin(int number, int least, int most) {
        return number >= least && number <= most;
    }

    private static boolean isWatch(int watch) {
        return isWithin(watch, 0, WATCHES - 1);
    }

    private static int wireOf(int from, int to) {
        return from * MOST_NODES + to;
    }

    private static int flag(boolean holds) {
        return holds ? 1 : 0;
    }

    /** The tape, and how a TEXT on it is read, TOKEN by TOKEN, up to its first FAULT. */
    private static final class Tape {
        private static final int ROOM = 600;

        private static final int BAD = 0;
        private static final int END = 1;
        private static final int WORD = 2;
        private static final int NUMBER = 3;
        private static final int SIGN = 4;

        final int[] bytes = new int[ROOM];
        int filled;
        int faultKind = NONE;
        int faultPlace = NONE;
        // The TEXT's length; then of the latest TOKEN: where it starts, what is next behind it, its kind, its NUMBER.
        int end;
        int start;
        int next;
        int token;
        int value;

        boolean hasRoomFor(int more) {
            return filled + more <= ROOM;
        }

        void put(int four) {
            for (int shift = 24; shift >= 0 && filled < ROOM; shift -= 8) {
                bytes[filled] = (four >>> shift) & 255;
                filled++;
            }
        }

        boolean read(int n, World into) {
            end = Math.min(Math.max(n, 0), filled);
            next = 0;
            filled = 0;
            faultKind = 0;
            faultPlace = NONE;
            boolean good = readHead(into);
            // A LINE has a byte at least.
            for (int lines = 0; good && lines <= ROOM; lines++) {
                scan();
                if (token == END) {
                    break;
                }
                good = readLine(into);
            }
            return good;
        }

        boolean readHead(World into) {
            scan();
            if (!wants(WORD)) {
                return false;
            }
            if (!isWord("nodes")) {
                return blame(2);
            }
            if (!wantsNumber(2, MOST_NODES)) {
                return false;
            }
            into.renew(value);
            return wantsSign();
        }

        boolean readLine(World into) {
            if (!wants(WORD)) {
                return false;
            }
            if (isWord("wire")) {
                return readWire(into, false);
            }
            if (isWord("both")) {
                return readWire(into, true);
            }
            if (!isWord("plan")) {
                return blame(2);
            }
            return into.plan.count < MOST_ROWS ? readRow(into) : blame(5);
        }

        boolean readWire(World into, boolean back) {
            if (!wantsNode(into, NONE)) {
                return false;
            }
            int from = value;
            if (!wantsNode(into, from)) {
                return false;
            }
            int to = value;
            if (!wantsNumber(1, MOST_TICKS)) {
                return false;
            }
            into.wires[wireOf(from, to)] = value;
            if (back) {
                into.wires[wireOf(to, from)] = value;
            }
            return wantsSign();
        }

        boolean readRow(World into) {
            if (!wantsNode(into, NONE)) {
                return false;
            }
            int node = value;
            if (!wantsNumber(1, MOST_AFTER)) {
                return false;
            }
            int after = value;
            if (!wantsNode(into, node)) {
                return false;
            }
            int to = value;
            if (!wantsNumber(1, MOST_LOAD)) {
                return false;
            }
            into.plan.append(node, after, to, value);
            return wantsSign();
        }

        /** Is the TOKEN of that kind? */
        boolean wants(int kind) {
            if (token == BAD) {
                return blame(1);
            }
            return token == kind || blame(2);
        }

        boolean wantsSign() {
            scan();
            return wants(SIGN);
        }

        boolean wantsNumber(int least, int most) {
            scan();
            return wants(NUMBER) && (isWithin(value, least, most) || blame(4));
        }

        boolean wantsNode(World into, int other) {
            scan();
            if (!wants(NUMBER)) {
                return false;
            }
            if (!into.hasNode(value)) {
                return blame(3);
            }
            return value != other || blame(4);
        }

        boolean blame(int kind) {
            faultKind = kind;
            faultPlace = start;
            return false;
        }

        void scan() {
            while (next < end && (bytes[next] == 10 || bytes[next] == 32)) {
                next++;
            }
            start = next;
            if (next >= end) {
                token = END;
            } else if (bytes[next] == ';') {
                token = SIGN;
                next++;
            } else if (isSmallLetter(bytes[next])) {
                scanWord();
            } else if (isDigit(bytes[next])) {
                scanNumber();
            } else {
                token = BAD;
            }
        }

        void scanWord() {
            token = WORD;
            while (next < end && isSmallLetter(bytes[next])) {
                next++;
            }
        }

        void scanNumber() {
            value = 0;
            while (next < end && isDigit(bytes[next])) {
                value = value * 10 + bytes[next] - '0';
                next++;
            }
            token = next - start <= 3 ? NUMBER : BAD;
        }

        boolean isWord(String word) {
            boolean same = next - start == word.length();
            for (int i = 0; same && i < word.length(); i++) {
                same = bytes[start + i] == word.charAt(i);
            }
            return same;
        }

        static boolean isSmallLetter(int sign) {
            return sign >= 'a' && sign <= 'z';
        }

        static boolean isDigit(int sign) {
            return sign >= '0' && sign <= '9';
        }
    }

    /** The ROWS, in order. */
    private static final class Plan {
        static final int PARTS = 4;
        static final int NODE = 0;
        static final int AFTER = 1;
        static final int TO = 2;
        static final int LOAD = 3;

        final int[] parts = new int[MOST_ROWS * PARTS];
        final int[] given = new int[MOST_NODES];
        int count;

        int part(int row, int what) {
            return parts[row * PARTS + what];
        }

        void append(int node, int after, int to, int load) {
            if (count >= MOST_ROWS) {
                return;
            }
            int at = count * PARTS;
            parts[at + NODE] = node;
            parts[at + AFTER] = after;
            parts[at + TO] = to;
            parts[at + LOAD] = load;
            count++;
        }

        void takeOut(int row) {
            int behind = (row + 1) * PARTS;
            System.arraycopy(parts, behind, parts, row * PARTS, count * PARTS - behind);
            count--;
        }

        void copyFrom(Plan other) {
            System.arraycopy(other.parts, 0, parts, 0, other.count * PARTS);
            count = other.count;
        }

        /** The least LOAD for the ROOT by which as many are SENT as by the greatest: more of it never sends fewer. */
        int leastLoad() {
            int all = sentWith(MOST_BEGIN);
            int least = 1;
            int most = MOST_BEGIN;
            for (int step = 0; least < most && step < MOST_BEGIN; step++) {
                int middle = (least + most) / 2;
                if (sentWith(middle) == all) {
                    most = middle;
                } else {
                    least = middle + 1;
                }
            }
            return least;
        }

        /**
         * How many WORK LETTERS are SENT by TRUTH. No TICK has to go by for it: a NODE does all that it is given,
         * sooner or later, and so sends each ROW whose AFTER is no more than that.
         */
        int sentWith(int load) {
            Arrays.fill(given, 0);
            given[0] = load;
            long gone = 0;
            boolean more = true;
            for (int round = 0; more && round <= MOST_ROWS; round++) {
                more = false;
                for (int row = 0; row < count; row++) {
                    if ((gone >>> row & 1L) == 0 && given[part(row, NODE)] >= part(row, AFTER)) {
                        given[part(row, TO)] += part(row, LOAD);
                        gone |= 1L << row;
                        more = true;
                    }
                }
            }
            return Long.bitCount(gone);
        }
    }

    /** The LETTERS on their way, as they were sent. */
    private static final class Letters {
        static final int PARTS = 8;
        static final int KIND = 0;
        static final int FROM = 1;
        static final int TO = 2;
        static final int DUE = 3;
        static final int LOAD = 4;
        static final int WEIGHTS = 5;
        static final int CHAIN = 6;
        static final int RED = 7;

        static final int FIRST_ROOM = 48;
        // A WORK LETTER leads to an ACK and a WEIGHT at most, and 512 calls make fewer than 560 of them.
        static final int MOST = 2048;

        int[] parts = new int[FIRST_ROOM * PARTS];
        int count;

        int part(int i, int what) {
            return parts[i * PARTS + what];
        }

        /** The place of a new LETTER behind all others; NONE if there can't be more. */
        int put(int kind, int from, int to, int due, int red) {
            if (count >= MOST) {
                return NONE;
            }
            int at = count * PARTS;
            if (at + PARTS > parts.length) {
                parts = Arrays.copyOf(parts, parts.length * 2);
            }
            parts[at + KIND] = kind;
            parts[at + FROM] = from;
            parts[at + TO] = to;
            parts[at + DUE] = due;
            parts[at + LOAD] = 0;
            parts[at + WEIGHTS] = 0;
            parts[at + CHAIN] = 0;
            parts[at + RED] = red;
            count++;
            return count - 1;
        }

        void fill(int i, int load, int weight, int chain) {
            parts[i * PARTS + LOAD] = load;
            parts[i * PARTS + WEIGHTS] = weight;
            parts[i * PARTS + CHAIN] = chain;
        }

        /** Those that came by this TICK go from the row, the others stay in order. */
        void takeOutUntil(int tick) {
            int kept = 0;
            for (int i = 0; i < count; i++) {
                if (part(i, DUE) > tick) {
                    if (kept < i) {
                        System.arraycopy(parts, i * PARTS, parts, kept * PARTS, PARTS);
                    }
                    kept++;
                }
            }
            count = kept;
        }

        int works() {
            int found = 0;
            for (int i = 0; i < count; i++) {
                if (part(i, KIND) == WORK_LETTER) {
                    found++;
                }
            }
            return found;
        }

        int signals() {
            return count - works();
        }

        int weightTogether() {
            int sum = 0;
            for (int i = 0; i < count; i++) {
                sum += part(i, WEIGHTS);
            }
            return sum;
        }

        void clearRed() {
            for (int i = 0; i < count; i++) {
                parts[i * PARTS + RED] = 0;
            }
        }

        void copyFrom(Letters other) {
            if (parts.length < other.parts.length) {
                parts = new int[other.parts.length];
            }
            System.arraycopy(other.parts, 0, parts, 0, other.count * PARTS);
            count = other.count;
        }
    }

    /** What went by each WIRE since work BEGAN. */
    private static final class Ledger {
        static final int PARTS = 4;
        static final int WORKS = 0;
        static final int SIGNALS = 1;
        static final int TICKS = 2;
        static final int MOST = 3;

        final int[] parts = new int[MOST_NODES * MOST_NODES * PARTS];
        final int[] onWay = new int[MOST_NODES * MOST_NODES];

        int part(int wire, int what) {
            return parts[wire * PARTS + what];
        }

        void enter(int wire, int kind, int ticks) {
            int at = wire * PARTS;
            parts[at + (kind == WORK_LETTER ? WORKS : SIGNALS)]++;
            parts[at + TICKS] += ticks;
            onWay[wire]++;
        }

        void leave(int wire) {
            onWay[wire]--;
        }

        /** Only a WIRE that has a LETTER now can have more on it than ever, so the LETTERS lead to all that matter. */
        void keepMost(Letters letters) {
            for (int i = 0; i < letters.count; i++) {
                int wire = wireOf(letters.part(i, Letters.FROM), letters.part(i, Letters.TO));
                int at = wire * PARTS + MOST;
                if (onWay[wire] > parts[at]) {
                    parts[at] = onWay[wire];
                }
            }
        }

        void clear() {
            Arrays.fill(parts, 0);
            Arrays.fill(onWay, 0);
        }

        void copyFrom(Ledger other) {
            System.arraycopy(other.parts, 0, parts, 0, parts.length);
            System.arraycopy(other.onWay, 0, onWay, 0, onWay.length);
        }
    }

    /** The latest EVENTS, in a ring. */
    private static final class Events {
        static final int ROOM = 24;
        static final int PARTS = 3;

        final int[] parts = new int[ROOM * PARTS];
        int count;
        int head;

        void note(int kind, int tick, int number) {
            int at = head * PARTS;
            parts[at] = kind;
            parts[at + 1] = tick;
            parts[at + 2] = number;
            head = head + 1 < ROOM ? head + 1 : 0;
            count = Math.min(count + 1, ROOM);
        }

        int part(int i, int what) {
            int slot = head - 1 - i;
            if (slot < 0) {
                slot += ROOM;
            }
            return parts[slot * PARTS + what];
        }

        void clear() {
            count = 0;
            head = 0;
        }

        void copyFrom(Events other) {
            System.arraycopy(other.parts, 0, parts, 0, parts.length);
            count = other.count;
            head = other.head;
        }
    }

    /** What the WATCHES hold that is no NODE's. */
    private static final class Watches {
        static final int FIRST_WEIGHT = 1048576;

        final int[] told = new int[WATCHES];
        final int[] signals = new int[WATCHES];
        int treeMost;
        int tokenAt;
        int tokenSum;
        boolean tokenBlack;
        boolean tokenFresh;
        int rounds;
        int due;
        int pool;
        int mints;
        int visitorAt;
        int visitorSent;
        int visitorGot;
        boolean visitorFresh;
        int waves;
        boolean hasAhead;
        int aheadSent;
        int aheadGot;

        boolean hasTold(int watch) {
            return told[watch] != NONE;
        }

        boolean haveAllTold() {
            return hasTold(TREE) && hasTold(TOKEN) && hasTold(WEIGHT) && hasTold(WAVES);
        }

        /** Of those that have TOLD; NONE if none has. */
        int fewestSignals() {
            int found = NONE;
            for (int watch = 0; watch < WATCHES; watch++) {
                if (hasTold(watch) && (found == NONE || signals[watch] < signals[found])) {
                    found = watch;
                }
            }
            return found;
        }

        /** Did the VISITOR count the same four times: as SENT, as GOT, in this WAVE and in the one ahead? */
        boolean allFourAlike() {
            return hasAhead && visitorSent == visitorGot && visitorSent == aheadSent && visitorSent == aheadGot;
        }

        void renewWave(int sent, int got) {
            if (!visitorFresh) {
                hasAhead = true;
                aheadSent = visitorSent;
                aheadGot = visitorGot;
            }
            visitorFresh = false;
            visitorSent = sent;
            visitorGot = got;
            waves++;
        }

        void renewRound() {
            tokenBlack = false;
            tokenSum = 0;
            tokenFresh = false;
            rounds++;
        }

        void clear() {
            Arrays.fill(told, NONE);
            Arrays.fill(signals, 0);
            treeMost = 0;
            tokenAt = 0;
            tokenSum = 0;
            tokenBlack = false;
            tokenFresh = true;
            rounds = 0;
            due = 0;
            pool = 0;
            mints = 0;
            visitorAt = 0;
            visitorSent = 0;
            visitorGot = 0;
            visitorFresh = true;
            waves = 0;
            hasAhead = false;
            aheadSent = 0;
            aheadGot = 0;
        }

        void copyFrom(Watches other) {
            System.arraycopy(other.told, 0, told, 0, WATCHES);
            System.arraycopy(other.signals, 0, signals, 0, WATCHES);
            treeMost = other.treeMost;
            tokenAt = other.tokenAt;
            tokenSum = other.tokenSum;
            tokenBlack = other.tokenBlack;
            tokenFresh = other.tokenFresh;
            rounds = other.rounds;
            due = other.due;
            pool = other.pool;
            mints = other.mints;
            visitorAt = other.visitorAt;
            visitorSent = other.visitorSent;
            visitorGot = other.visitorGot;
            visitorFresh = other.visitorFresh;
            waves = other.waves;
            hasAhead = other.hasAhead;
            aheadSent = other.aheadSent;
            aheadGot = other.aheadGot;
        }
    }

    /** A NODE, with what each WATCH and the CUT keep of it. */
    private static final class Node {
        int work;
        int done;
        int sent;
        int got;
        int parent = NONE;
        boolean inTree;
        int owes;
        int tally;
        boolean black;
        int weight;
        // The LETTER by which it became BUSY last; from NONE: there is no such one.
        int chain;
        int busyFrom = NONE;
        int busyTick;
        int asleep;
        boolean red;
        int redWork;
        int redSent;
        int redGot;

        void turnRed() {
            red = true;
            redWork = work;
            redSent = sent;
            redGot = got;
        }

        int recordOf(int what) {
            switch (what) {
                case 0: return redWork;
                case 1: return redSent;
                default: return redGot;
            }
        }

        void clearRed() {
            red = false;
            redWork = 0;
            redSent = 0;
            redGot = 0;
        }

        /** All but its sleep, which goes on as work BEGINS. */
        void clear() {
            work = 0;
            done = 0;
            sent = 0;
            got = 0;
            parent = NONE;
            inTree = false;
            owes = 0;
            tally = 0;
            black = false;
            weight = 0;
            chain = 0;
            busyFrom = NONE;
            busyTick = 0;
            clearRed();
        }

        void copyFrom(Node other) {
            work = other.work;
            done = other.done;
            sent = other.sent;
            got = other.got;
            parent = other.parent;
            inTree = other.inTree;
            owes = other.owes;
            tally = other.tally;
            black = other.black;
            weight = other.weight;
            chain = other.chain;
            busyFrom = other.busyFrom;
            busyTick = other.busyTick;
            asleep = other.asleep;
            red = other.red;
            redWork = other.redWork;
            redSent = other.redSent;
            redGot = other.redGot;
        }
    }

    /** All that a MARK keeps, and how a TICK changes it. */
    private static final class World {
        static final int MINTED = 1024;

        // What ofNode() tells that is asked of all together.
        static final int WORK = 0;
        static final int DONE = 1;
        static final int SENT = 2;
        static final int OWED = 6;
        static final int WEIGHED = 9;

        final Node[] nodes = new Node[MOST_NODES];
        final int[] wires = new int[MOST_NODES * MOST_NODES];
        final Plan plan = new Plan();
        final Letters letters = new Letters();
        final Ledger ledger = new Ledger();
        final Events events = new Events();
        final Watches watches = new Watches();
        int count;
        int tick;
        int began;
        int truth;
        int lastIdle;
        int cuts;
        int crossed;
        int crossedLoads;
        int wholeTick;

        World() {
            for (int i = 0; i < MOST_NODES; i++) {
                nodes[i] = new Node();
            }
            renew(2);
        }

        // ---- from one state to another

        /** As with a new TEXT of so many NODES, ahead of its first LINE. */
        void renew(int many) {
            count = many;
            tick = 0;
            began = NONE;
            plan.count = 0;
            events.clear();
            Arrays.fill(wires, 1);
            for (int i = 0; i < MOST_NODES; i++) {
                nodes[i].asleep = 0;
            }
            clearWork();
        }

        void clearWork() {
            truth = NONE;
            lastIdle = NONE;
            cuts = 0;
            clearCut();
            letters.count = 0;
            ledger.clear();
            watches.clear();
            for (int i = 0; i < MOST_NODES; i++) {
                nodes[i].clear();
            }
        }

        void start(int load) {
            clearWork();
            began = tick;
            Node root = nodes[0];
            root.work = load;
            root.inTree = true;
            root.weight = Watches.FIRST_WEIGHT;
            watches.due = Watches.FIRST_WEIGHT;
            events.note(BEGAN_EVENT, tick, load);
        }

        void growByOne() {
            if (count >= MOST_NODES) {
                return;
            }
            for (int i = 0; i < count; i++) {
                wires[wireOf(i, count)] = 1;
                wires[wireOf(count, i)] = 1;
            }
            nodes[count].clear();
            nodes[count].asleep = 0;
            count++;
            clearRed();
        }

        void copyFrom(World other) {
            for (int i = 0; i < MOST_NODES; i++) {
                nodes[i].copyFrom(other.nodes[i]);
            }
            System.arraycopy(other.wires, 0, wires, 0, wires.length);
            plan.copyFrom(other.plan);
            letters.copyFrom(other.letters);
            ledger.copyFrom(other.ledger);
            events.copyFrom(other.events);
            watches.copyFrom(other.watches);
            count = other.count;
            tick = other.tick;
            began = other.began;
            truth = other.truth;
            lastIdle = other.lastIdle;
            cuts = other.cuts;
            crossed = other.crossed;
            crossedLoads = other.crossedLoads;
            wholeTick = other.wholeTick;
        }

        // ---- a TICK

        void pass() {
            tick++;
            if (began == NONE) {
                return;
            }
            takeLetters();
            for (int i = 0; i < count; i++) {
                if (nodes[i].work > 0 && nodes[i].asleep == 0) {
                    workOff(i);
                }
            }
            for (int i = 0; i < count; i++) {
                if (nodes[i].work == 0 && nodes[i].asleep == 0) {
                    tendWatches(i);
                }
            }
            seeTruth();
            sleepOn();
            watches.treeMost = Math.max(watches.treeMost, treeSize());
            ledger.keepMost(letters);
        }

        /** What is sent meanwhile lies behind those that were there, and comes with no TICK before the next. */
        void takeLetters() {
            int there = letters.count;
            boolean cameAny = false;
            for (int i = 0; i < there; i++) {
                if (letters.part(i, Letters.DUE) <= tick) {
                    cameAny = true;
                    if (letters.part(i, Letters.RED) != 0) {
                        turnRed(letters.part(i, Letters.TO));
                    }
                    if (letters.part(i, Letters.KIND) == WORK_LETTER) {
                        takeWork(i);
                    } else {
                        takeSignal(i);
                    }
                }
            }
            if (cameAny) {
                letters.takeOutUntil(tick);
            }
        }

        void takeWork(int i) {
            int from = letters.part(i, Letters.FROM);
            int to = letters.part(i, Letters.TO);
            int load = letters.part(i, Letters.LOAD);
            Node node = nodes[to];
            ledger.leave(wireOf(from, to));
            if (node.red && letters.part(i, Letters.RED) == 0) {
                crossed++;
                crossedLoads += load;
            }
            if (node.work == 0) {
                node.chain = letters.part(i, Letters.CHAIN);
                node.busyFrom = from;
                node.busyTick = tick;
                events.note(BUSY_EVENT, tick, to);
            }
            node.work += load;
            node.weight += letters.part(i, Letters.WEIGHTS);
            node.got++;
            node.tally--;
            node.black = true;
            if (node.inTree) {
                post(ACK_LETTER, to, from);
            } else {
                node.inTree = true;
                node.parent = from;
            }
        }

        void takeSignal(int i) {
            int to = letters.part(i, Letters.TO);
            ledger.leave(wireOf(letters.part(i, Letters.FROM), to));
            switch (letters.part(i, Letters.KIND)) {
                case ACK_LETTER:
                    nodes[to].owes--;
                    break;
                case TOKEN_LETTER:
                    watches.tokenAt = to;
                    break;
                case WEIGHT_LETTER:
                    watches.pool += letters.part(i, Letters.WEIGHTS);
                    break;
                default:
                    watches.visitorAt = to;
                    break;
            }
        }

        void workOff(int i) {
            Node node = nodes[i];
            node.work--;
            node.done++;
            if (node.work == 0) {
                lastIdle = i;
                events.note(IDLE_EVENT, tick, i);
            }
            for (int row = 0; row < plan.count; row++) {
                if (plan.part(row, Plan.NODE) == i && plan.part(row, Plan.AFTER) == node.done) {
                    sendWork(i, plan.part(row, Plan.TO), plan.part(row, Plan.LOAD));
                }
            }
        }

        void sendWork(int from, int to, int load) {
            Node node = nodes[from];
            if (node.weight == 1) {
                node.weight += MINTED;
                watches.due += MINTED;
                watches.mints++;
                watches.signals[WEIGHT] += 2;
                events.note(MINT_EVENT, tick, from);
            }
            int at = post(WORK_LETTER, from, to);
            if (at == NONE) {
                return;
            }
            int half = node.weight / 2;
            node.weight -= half;
            letters.fill(at, load, half, node.chain + 1);
            node.sent++;
            node.owes++;
            node.tally++;
        }

        /** A LETTER goes; its place among the LETTERS, or NONE if it can't. */
        int post(int kind, int from, int to) {
            if (!hasNode(from) || !hasNode(to)) {
                return NONE;
            }
            int wire = wireOf(from, to);
            int at = letters.put(kind, from, to, tick + wires[wire], flag(nodes[from].red));
            if (at != NONE) {
                ledger.enter(wire, kind, wires[wire]);
                countSignal(kind);
            }
            return at;
        }

        void countSignal(int kind) {
            switch (kind) {
                case ACK_LETTER:
                    watches.signals[TREE]++;
                    break;
                case TOKEN_LETTER:
                    watches.signals[TOKEN]++;
                    break;
                case WEIGHT_LETTER:
                    watches.signals[WEIGHT]++;
                    break;
                case VISITOR_LETTER:
                    watches.signals[WAVES]++;
                    break;
                default:
                    break;
            }
        }

        void tendWatches(int i) {
            tendTree(i);
            tendToken(i);
            tendWeight(i);
            tendWaves(i);
        }

        void tendTree(int i) {
            Node node = nodes[i];
            if (watches.hasTold(TREE) || !node.inTree || node.owes != 0) {
                return;
            }
            if (i == 0) {
                tellEnd(TREE);
                return;
            }
            post(ACK_LETTER, i, node.parent);
            node.inTree = false;
            node.parent = NONE;
        }

        void tendToken(int i) {
            if (watches.hasTold(TOKEN) || watches.tokenAt != i) {
                return;
            }
            Node node = nodes[i];
            if (i != 0) {
                watches.tokenSum += node.tally;
                watches.tokenBlack = watches.tokenBlack || node.black;
            } else if (!watches.tokenFresh && !watches.tokenBlack && !node.black
                    && watches.tokenSum + node.tally == 0) {
                tellEnd(TOKEN);
                return;
            } else {
                watches.renewRound();
                events.note(ROUND_EVENT, tick, TOKEN);
            }
            node.black = false;
            watches.tokenAt = NONE;
            post(TOKEN_LETTER, i, i == 0 ? count - 1 : i - 1);
        }

        void tendWeight(int i) {
            if (watches.hasTold(WEIGHT)) {
                return;
            }
            Node node = nodes[i];
            if (i == 0) {
                watches.pool += node.weight;
                node.weight = 0;
                if (watches.pool == watches.due) {
                    tellEnd(WEIGHT);
                }
            } else if (node.weight > 0) {
                int at = post(WEIGHT_LETTER, i, 0);
                if (at != NONE) {
                    letters.fill(at, 0, node.weight, 0);
                    node.weight = 0;
                }
            }
        }

        void tendWaves(int i) {
            if (watches.hasTold(WAVES) || watches.visitorAt != i) {
                return;
            }
            Node node = nodes[i];
            if (i != 0) {
                watches.visitorSent += node.sent;
                watches.visitorGot += node.got;
            } else if (!watches.visitorFresh && watches.allFourAlike()) {
                tellEnd(WAVES);
                return;
            } else {
                watches.renewWave(node.sent, node.got);
                events.note(ROUND_EVENT, tick, WAVES);
            }
            watches.visitorAt = NONE;
            post(VISITOR_LETTER, i, i + 1 < count ? i + 1 : 0);
        }

        void tellEnd(int watch) {
            watches.told[watch] = tick;
            events.note(TOLD_EVENT, tick, watch);
        }

        void seeTruth() {
            if (truth == NONE && !isWorking()) {
                truth = tick;
                events.note(TRUTH_EVENT, tick, together(SENT));
            }
        }

        void sleepOn() {
            for (int i = 0; i < count; i++) {
                if (nodes[i].asleep > 0) {
                    nodes[i].asleep--;
                }
            }
        }

        // ---- the CUT

        void startCut(int at) {
            clearCut();
            cuts++;
            turnRed(at);
        }

        void clearCut() {
            crossed = 0;
            crossedLoads = 0;
            clearRed();
        }

        void clearRed() {
            wholeTick = NONE;
            letters.clearRed();
            for (int i = 0; i < MOST_NODES; i++) {
                nodes[i].clearRed();
            }
        }

        /** Who is RED already keeps what was RECORDED. */
        void turnRed(int i) {
            if (nodes[i].red) {
                return;
            }
            nodes[i].turnRed();
            if (redBits() == (1 << count) - 1) {
                wholeTick = tick;
            }
        }

        boolean isWhole() {
            return wholeTick != NONE;
        }

        int redBits() {
            int bits = 0;
            for (int i = 0; i < count; i++) {
                bits |= flag(nodes[i].red) << i;
            }
            return bits;
        }

        int recordTogether(int what) {
            int sum = 0;
            for (int i = 0; i < count; i++) {
                sum += nodes[i].recordOf(what);
            }
            return sum;
        }

        boolean showsEnd() {
            return isWhole() && recordTogether(0) == 0 && recordTogether(1) == recordTogether(2);
        }

        int ofCut(int what) {
            switch (what) {
                case 0: return redBits();
                case 1: return flag(isWhole());
                case 2: return recordTogether(0);
                case 3: return recordTogether(1);
                case 4: return recordTogether(2);
                case 5: return crossed;
                case 6: return crossedLoads;
                case 7: return flag(showsEnd());
                default: return wholeTick;
            }
        }

        // ---- as many TICKS as it takes

        void passUntilTruth() {
            for (int i = 0; truth == NONE && i < MOST_PAPER_TICKS; i++) {
                pass();
            }
        }

        void passUntilTold(int watch) {
            for (int i = 0; !watches.hasTold(watch) && i < MOST_PAPER_TICKS; i++) {
                pass();
            }
        }

        /** Once nothing more can be sent, nobody turns RED any more. */
        void passUntilWhole() {
            for (int i = 0; !isWhole() && !isStill() && i < MOST_CUT_TICKS; i++) {
                pass();
            }
        }

        boolean isStill() {
            return letters.count == 0 && watches.haveAllTold() && !isWorking();
        }

        // ---- what there is

        boolean hasNode(int node) {
            return node >= 0 && node < count;
        }

        int busyBits() {
            int bits = 0;
            for (int i = 0; i < count; i++) {
                bits |= flag(nodes[i].work > 0) << i;
            }
            return bits;
        }

        boolean isWorking() {
            return busyBits() != 0 || letters.works() > 0;
        }

        int overall(int what) {
            switch (what) {
                case 0: return count;
                case 1: return plan.count;
                case 2: return tick;
                case 3: return busyBits();
                case 4: return together(WORK);
                case 5: return together(DONE);
                case 6: return letters.works();
                case 7: return letters.signals();
                case 8: return together(SENT);
                case 9: return began;
                default: return truth;
            }
        }

        int ofNode(int i, int what) {
            Node node = nodes[i];
            switch (what) {
                case WORK: return node.work;
                case DONE: return node.done;
                case SENT: return node.sent;
                case 3: return node.got;
                case 4: return node.parent;
                case 5: return flag(node.inTree);
                case OWED: return node.owes;
                case 7: return node.tally;
                case 8: return flag(node.black);
                case WEIGHED: return node.weight;
                case 10: return childBits(i);
                case 11: return node.chain;
                case 12: return node.asleep;
                default: return flag(node.red);
            }
        }

        int together(int what) {
            int sum = 0;
            for (int i = 0; i < count; i++) {
                sum += ofNode(i, what);
            }
            return sum;
        }

        int childBits(int parent) {
            int bits = 0;
            for (int i = 0; i < count; i++) {
                bits |= flag(nodes[i].parent == parent) << i;
            }
            return bits;
        }

        int ofWatch(int watch, int what) {
            switch (what) {
                case 0: return watches.told[watch];
                case 1: return watches.signals[watch];
                default: break;
            }
            switch (watch) {
                case TREE: return ofTree(what);
                case TOKEN: return ofToken(what);
                case WEIGHT: return ofWeight(what);
                default: return ofWaves(what);
            }
        }

        int ofTree(int what) {
            switch (what) {
                case 2: return watches.treeMost;
                case 3: return 0;
                case 4: return together(OWED);
                default: return treeDepth();
            }
        }

        int ofToken(int what) {
            switch (what) {
                case 2: return watches.rounds;
                case 3: return watches.tokenAt;
                case 4: return watches.tokenSum;
                default: return flag(watches.tokenBlack);
            }
        }

        int ofWeight(int what) {
            switch (what) {
                case 2: return watches.mints;
                case 3: return 0;
                case 4: return watches.due;
                default: return watches.pool;
            }
        }

        int ofWaves(int what) {
            switch (what) {
                case 2: return watches.waves;
                case 3: return watches.visitorAt;
                case 4: return watches.visitorSent;
                default: return watches.visitorGot;
            }
        }

        int treeSize() {
            int size = 0;
            for (int i = 0; i < count; i++) {
                size += flag(nodes[i].inTree);
            }
            return size;
        }

        int treeDepth() {
            int deepest = 0;
            for (int i = 0; i < count; i++) {
                int steps = 0;
                for (int at = nodes[i].parent; hasNode(at) && steps < MOST_NODES; at = nodes[at].parent) {
                    steps++;
                }
                deepest = Math.max(deepest, steps);
            }
            return deepest;
        }

        int weighed(int what) {
            switch (what) {
                case 0: return together(WEIGHED);
                case 1: return letters.weightTogether();
                case 2: return watches.pool;
                default: return watches.due;
            }
        }

        boolean hasLastLetter() {
            return truth != NONE && hasNode(lastIdle) && nodes[lastIdle].busyFrom != NONE;
        }

        int ofLastLetter(int what) {
            Node node = nodes[lastIdle];
            switch (what) {
                case 0: return node.chain;
                case 1: return node.busyFrom;
                case 2: return lastIdle;
                default: return node.busyTick;
            }
        }

        // ---- how late

        int lagOf(int watch) {
            return watches.told[watch] - truth;
        }

        /** Of those that have TOLD, the first with the least LAG; NONE if none has. */
        int leastLate() {
            int found = NONE;
            for (int watch = 0; watch < WATCHES; watch++) {
                if (watches.hasTold(watch) && (found == NONE || lagOf(watch) < lagOf(found))) {
                    found = watch;
                }
            }
            return found;
        }

        int boundOf(int watch) {
            switch (watch) {
                case TREE: return count * greatestWire();
                case WEIGHT: return greatestWireToRoot();
                case TOKEN: return 3 * wiresDownwards();
                default: return 3 * wiresUpwards();
            }
        }

        int greatestWire() {
            int greatest = 0;
            for (int from = 0; from < count; from++) {
                for (int to = 0; to < count; to++) {
                    if (from != to) {
                        greatest = Math.max(greatest, wires[wireOf(from, to)]);
                    }
                }
            }
            return greatest;
        }

        int greatestWireToRoot() {
            int greatest = 0;
            for (int from = 1; from < count; from++) {
                greatest = Math.max(greatest, wires[wireOf(from, 0)]);
            }
            return greatest;
        }

        int wiresDownwards() {
            int sum = wires[wireOf(0, count - 1)];
            for (int from = count - 1; from > 0; from--) {
                sum += wires[wireOf(from, from - 1)];
            }
            return sum;
        }

        int wiresUpwards() {
            int sum = wires[wireOf(count - 1, 0)];
            for (int from = 0; from < count - 1; from++) {
                sum += wires[wireOf(from, from + 1)];
            }
            return sum;
        }
    }
}
