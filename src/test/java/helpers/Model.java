import java.util.ArrayList;
import java.util.List;

/**
 * The document once more, written for plainness alone: objects and lists that are copied whole, every count made anew
 * from what was written down, nothing kept that can be found by going through all. ModelTest runs it beside the class.
 */
final class Model {
    static final int NONE = -1;

    static final class Letter {
        int kind;
        int from;
        int to;
        int left;
        int ticks;
        int load;
        int weight;
        boolean red;
        Letter waker;
        int cameIn;

        int chain() {
            int length = 0;
            for (Letter at = this; at != null && at.kind == 0; at = at.waker) {
                length++;
            }
            return length;
        }
    }

    static final class Point {
        int work;
        int done;
        int sent;
        int got;
        Integer parent;
        boolean inTree;
        int owes;
        int tally;
        boolean black;
        int weight;
        Letter waker;
        int asleep;
        int[] record;

        Point copy() {
            Point p = new Point();
            p.work = work;
            p.done = done;
            p.sent = sent;
            p.got = got;
            p.parent = parent;
            p.inTree = inTree;
            p.owes = owes;
            p.tally = tally;
            p.black = black;
            p.weight = weight;
            p.waker = waker;
            p.asleep = asleep;
            p.record = record;
            return p;
        }
    }

    static final class State {
        List<Point> points = new ArrayList<>();
        int[][] wire = new int[8][8];
        List<int[]> rows = new ArrayList<>();
        List<Letter> way = new ArrayList<>();
        List<Letter> allSent = new ArrayList<>();
        int[][] most = new int[8][8];
        List<int[]> events = new ArrayList<>();
        int tick;
        Integer began;
        Integer truth;
        Integer[] told = new Integer[4];
        int minted;
        int treeMost;
        Integer lastIdle;
        Integer tokenAt = 0;
        int tokenSum;
        boolean tokenBlack;
        int rounds;
        int pool;
        Integer visitorAt = 0;
        List<int[]> waves = new ArrayList<>();
        int cuts;
        int crossed;
        int crossedLoads;
        Integer wholeIn;

        State(int nodes) {
            for (int i = 0; i < nodes; i++) {
                points.add(new Point());
            }
            for (int[] line : wire) {
                java.util.Arrays.fill(line, 1);
            }
        }

        State copy() {
            State s = new State(0);
            for (Point p : points) {
                s.points.add(p.copy());
            }
            for (int i = 0; i < 8; i++) {
                s.wire[i] = wire[i].clone();
                s.most[i] = most[i].clone();
            }
            for (int[] r : rows) {
                s.rows.add(r.clone());
            }
            // A LETTER's redness and TICKS left change, so each is made anew, the same one in all three places.
            java.util.IdentityHashMap<Letter, Letter> twins = new java.util.IdentityHashMap<>();
            for (Letter l : allSent) {
                Letter t = new Letter();
                t.kind = l.kind;
                t.from = l.from;
                t.to = l.to;
                t.left = l.left;
                t.ticks = l.ticks;
                t.load = l.load;
                t.weight = l.weight;
                t.red = l.red;
                t.waker = l.waker == null ? null : twins.get(l.waker);
                t.cameIn = l.cameIn;
                twins.put(l, t);
                s.allSent.add(t);
            }
            for (Letter l : way) {
                s.way.add(twins.get(l));
            }
            for (Point p : s.points) {
                p.waker = p.waker == null ? null : twins.get(p.waker);
            }
            s.events.addAll(events);
            s.tick = tick;
            s.began = began;
            s.truth = truth;
            s.told = told.clone();
            s.minted = minted;
            s.treeMost = treeMost;
            s.lastIdle = lastIdle;
            s.tokenAt = tokenAt;
            s.tokenSum = tokenSum;
            s.tokenBlack = tokenBlack;
            s.rounds = rounds;
            s.pool = pool;
            s.visitorAt = visitorAt;
            for (int[] w : waves) {
                s.waves.add(w.clone());
            }
            s.cuts = cuts;
            s.crossed = crossed;
            s.crossedLoads = crossedLoads;
            s.wholeIn = wholeIn;
            return s;
        }

        int size() {
            return points.size();
        }

        void event(int kind, int number) {
            events.add(new int[] {kind, tick, number});
        }

        boolean workGoesOn() {
            return points.stream().anyMatch(p -> p.work > 0) || way.stream().anyMatch(l -> l.kind == 0);
        }

        void begin(int load) {
            State fresh = new State(size());
            for (int i = 0; i < size(); i++) {
                fresh.points.get(i).asleep = points.get(i).asleep;
            }
            points = fresh.points;
            way = fresh.way;
            allSent = fresh.allSent;
            most = fresh.most;
            truth = null;
            told = fresh.told;
            minted = 0;
            treeMost = 0;
            lastIdle = null;
            tokenAt = 0;
            tokenSum = 0;
            tokenBlack = false;
            rounds = 0;
            pool = 0;
            visitorAt = 0;
            waves = fresh.waves;
            cuts = 0;
            crossed = 0;
            crossedLoads = 0;
            wholeIn = null;
            began = tick;
            points.get(0).work = load;
            points.get(0).inTree = true;
            points.get(0).weight = 1 << 20;
            event(0, load);
        }

        int due() {
            return began == null ? 0 : (1 << 20) + 1024 * minted;
        }

        Letter send(int kind, int from, int to) {
            Letter l = new Letter();
            l.kind = kind;
            l.from = from;
            l.to = to;
            l.left = wire[from][to];
            l.ticks = l.left;
            l.red = points.get(from).record != null;
            way.add(l);
            allSent.add(l);
            return l;
        }

        void redden(int i) {
            Point p = points.get(i);
            p.record = new int[] {p.work, p.sent, p.got};
            if (points.stream().allMatch(q -> q.record != null)) {
                wholeIn = tick;
            }
        }

        void cut(int i) {
            nobodyRed();
            crossed = 0;
            crossedLoads = 0;
            cuts++;
            redden(i);
        }

        void nobodyRed() {
            points.forEach(p -> p.record = null);
            way.forEach(l -> l.red = false);
            wholeIn = null;
        }

        void tick() {
            tick++;
            if (began == null) {
                return;
            }
            comeLetters();
            for (int i = 0; i < size(); i++) {
                Point p = points.get(i);
                if (p.work > 0 && p.asleep == 0) {
                    unit(i, p);
                }
            }
            for (int i = 0; i < size(); i++) {
                Point p = points.get(i);
                if (p.work == 0 && p.asleep == 0) {
                    tree(i, p);
                    token(i, p);
                    weight(i, p);
                    waves(i, p);
                }
            }
            if (truth == null && !workGoesOn()) {
                truth = tick;
                event(3, workSent());
            }
            points.forEach(p -> p.asleep = Math.max(0, p.asleep - 1));
            treeMost = Math.max(treeMost, (int) points.stream().filter(p -> p.inTree).count());
            for (int a = 0; a < 8; a++) {
                for (int b = 0; b < 8; b++) {
                    int from = a;
                    int to = b;
                    int there = (int) way.stream().filter(l -> l.from == from && l.to == to).count();
                    most[a][b] = Math.max(most[a][b], there);
                }
            }
        }

        int workSent() {
            return (int) allSent.stream().filter(l -> l.kind == 0).count();
        }

        void comeLetters() {
            List<Letter> coming = new ArrayList<>();
            for (Letter l : way) {
                l.left--;
                if (l.left == 0) {
                    coming.add(l);
                }
            }
            way.removeAll(coming);
            for (Letter l : coming) {
                Point p = points.get(l.to);
                if (l.red && p.record == null) {
                    redden(l.to);
                }
                switch (l.kind) {
                    case 0 -> comeWork(l, p);
                    case 1 -> p.owes--;
                    case 2 -> tokenAt = l.to;
                    case 3 -> pool += l.weight;
                    default -> visitorAt = l.to;
                }
            }
        }

        void comeWork(Letter l, Point p) {
            if (!l.red && p.record != null) {
                crossed++;
                crossedLoads += l.load;
            }
            l.cameIn = tick;
            p.got++;
            p.tally--;
            p.black = true;
            p.weight += l.weight;
            if (p.inTree) {
                send(1, l.to, l.from);
            } else {
                p.inTree = true;
                p.parent = l.from;
            }
            if (p.work == 0) {
                p.waker = l;
                event(1, l.to);
            }
            p.work += l.load;
        }

        void unit(int i, Point p) {
            p.work--;
            p.done++;
            if (p.work == 0) {
                lastIdle = i;
                event(2, i);
            }
            for (int[] r : rows) {
                if (r[0] == i && r[1] == p.done) {
                    if (p.weight == 1) {
                        p.weight += 1024;
                        minted++;
                        event(5, i);
                    }
                    Letter l = send(0, i, r[2]);
                    l.load = r[3];
                    l.weight = p.weight / 2;
                    p.weight -= l.weight;
                    l.waker = p.waker;
                    p.sent++;
                    p.owes++;
                    p.tally++;
                }
            }
        }

        void tell(int watch) {
            told[watch] = tick;
            event(4, watch);
        }

        void tree(int i, Point p) {
            if (told[0] == null && p.inTree && p.owes == 0) {
                if (i == 0) {
                    tell(0);
                } else {
                    send(1, i, p.parent);
                    p.inTree = false;
                    p.parent = null;
                }
            }
        }

        void token(int i, Point p) {
            if (told[1] != null || tokenAt == null || tokenAt != i) {
                return;
            }
            if (i > 0) {
                tokenSum += p.tally;
                tokenBlack |= p.black;
                p.black = false;
                tokenAt = null;
                send(2, i, i - 1);
            } else if (rounds > 0 && !tokenBlack && !p.black && tokenSum + p.tally == 0) {
                tell(1);
            } else {
                p.black = false;
                tokenBlack = false;
                tokenSum = 0;
                rounds++;
                tokenAt = null;
                event(6, 1);
                send(2, 0, size() - 1);
            }
        }

        void weight(int i, Point p) {
            if (told[2] != null) {
                return;
            }
            if (i == 0) {
                pool += p.weight;
                p.weight = 0;
                if (pool == due()) {
                    tell(2);
                }
            } else if (p.weight > 0) {
                send(3, i, 0).weight = p.weight;
                p.weight = 0;
            }
        }

        void waves(int i, Point p) {
            if (told[3] != null || visitorAt == null || visitorAt != i) {
                return;
            }
            int many = waves.size();
            if (i > 0) {
                waves.get(many - 1)[0] += p.sent;
                waves.get(many - 1)[1] += p.got;
            } else {
                if (many >= 2) {
                    int[] a = waves.get(many - 2);
                    int[] b = waves.get(many - 1);
                    if (a[0] == a[1] && a[0] == b[0] && a[0] == b[1]) {
                        tell(3);
                        return;
                    }
                }
                waves.add(new int[] {p.sent, p.got});
                event(6, 3);
            }
            visitorAt = null;
            send(4, i, i + 1 == size() ? 0 : i + 1);
        }

        int signals(int watch) {
            int kind = watch + 1;
            int sent = (int) allSent.stream().filter(l -> l.kind == kind).count();
            return watch == 2 ? sent + 2 * minted : sent;
        }

        int depth(int i) {
            Integer parent = points.get(i).parent;
            return parent == null ? 0 : 1 + depth(parent);
        }

        int bound(int watch) {
            int n = size();
            int all = 0;
            int toRoot = 0;
            int down = 0;
            int up = 0;
            for (int a = 0; a < n; a++) {
                for (int b = 0; b < n; b++) {
                    if (a != b) {
                        all = Math.max(all, wire[a][b]);
                        toRoot = b == 0 ? Math.max(toRoot, wire[a][b]) : toRoot;
                        down += b == (a + n - 1) % n ? wire[a][b] : 0;
                        up += b == (a + 1) % n ? wire[a][b] : 0;
                    }
                }
            }
            return new int[] {n * all, 3 * down, toRoot, 3 * up}[watch];
        }
    }

    State now = new State(2);
    final List<State> marks = new ArrayList<>();
    final List<Integer> tape = new ArrayList<>();
    int status;
    int fault = NONE;
    int place = NONE;

    private int no(int why) {
        status = why;
        return NONE;
    }

    private int yes(Integer value) {
        status = 0;
        return value == null ? NONE : value;
    }

    private boolean in(int x, int a, int b) {
        return x >= a && x <= b;
    }

    private boolean node(int i) {
        return in(i, 0, now.size() - 1);
    }

    private static int bit(boolean b) {
        return b ? 1 : 0;
    }

    int status() {
        return status;
    }

    int feed(int a, int b, int c, int d, int e) {
        if (tape.size() + 20 > 600) {
            return NONE;
        }
        for (int x : new int[] {a, b, c, d, e}) {
            for (byte y : java.nio.ByteBuffer.allocate(4).putInt(x).array()) {
                tape.add(y & 255);
            }
        }
        return tape.size();
    }

    /** Fault: kind and place. */
    static final class Wrong extends Exception {
        private static final long serialVersionUID = 1L;
        final int kind;
        final int place;

        Wrong(int kind, int place) {
            this.kind = kind;
            this.place = place;
        }
    }

    private static final class Reader {
        final String text;
        int at;
        int start;

        Reader(String text) {
            this.text = text;
        }

        String token() throws Wrong {
            java.util.regex.Matcher m = java.util.regex.Pattern.compile("[ \n]*([a-z]+|[0-9]+|;)?").matcher(text);
            m.region(at, text.length());
            m.lookingAt();
            if (m.group(1) == null) {
                start = m.end();
                if (start < text.length()) {
                    throw new Wrong(1, start);
                }
                return "";
            }
            start = m.start(1);
            at = m.end();
            if (m.group(1).matches("[0-9]{4,}")) {
                throw new Wrong(1, start);
            }
            return m.group(1);
        }

        void exactly(String want) throws Wrong {
            if (!token().equals(want)) {
                throw new Wrong(2, start);
            }
        }

        int number(int least, int most, int kind) throws Wrong {
            String t = token();
            if (!t.matches("[0-9]+")) {
                throw new Wrong(2, start);
            }
            int value = Integer.parseInt(t);
            if (value < least || value > most) {
                throw new Wrong(kind, start);
            }
            return value;
        }

        int other(int most, int first) throws Wrong {
            int value = number(0, most, 3);
            if (value == first) {
                throw new Wrong(4, start);
            }
            return value;
        }

        State state() throws Wrong {
            exactly("nodes");
            State s = new State(number(2, 8, 4));
            exactly(";");
            int top = s.size() - 1;
            for (String t = token(); !t.isEmpty(); t = token()) {
                switch (t) {
                    case "wire", "both" -> {
                        int a = number(0, top, 3);
                        int b = other(top, a);
                        s.wire[a][b] = number(1, 9, 4);
                        s.wire[b][a] = t.equals("both") ? s.wire[a][b] : s.wire[b][a];
                    }
                    case "plan" -> {
                        if (s.rows.size() == 40) {
                            throw new Wrong(5, start);
                        }
                        int a = number(0, top, 3);
                        int after = number(1, 200, 4);
                        int b = other(top, a);
                        s.rows.add(new int[] {a, after, b, number(1, 20, 4)});
                    }
                    default -> throw new Wrong(2, start);
                }
                exactly(";");
            }
            return s;
        }
    }

    int load(int n) {
        if (n < 0 || n > tape.size()) {
            return no(1);
        }
        StringBuilder text = new StringBuilder();
        for (int i = 0; i < n; i++) {
            text.append((char) (int) tape.get(i));
        }
        tape.clear();
        try {
            now = new Reader(text.toString()).state();
            fault = 0;
            place = NONE;
            return yes(now.size());
        } catch (Wrong w) {
            fault = w.kind;
            place = w.place;
            return no(9);
        }
    }

    int fault(int what) {
        return what == 0 ? fault : what == 1 ? place : NONE;
    }

    int many(int what) {
        if (!in(what, 0, 11)) {
            return no(1);
        }
        int busy = 0;
        int work = 0;
        int done = 0;
        for (int i = 0; i < now.size(); i++) {
            busy += bit(now.points.get(i).work > 0) << i;
            work += now.points.get(i).work;
            done += now.points.get(i).done;
        }
        int works = (int) now.way.stream().filter(l -> l.kind == 0).count();
        return yes(new Integer[] {now.size(), now.rows.size(), now.tick, busy, work, done, works,
            now.way.size() - works, now.workSent(), now.began, now.truth, marks.size()}[what]);
    }

    int node(int i, int what) {
        if (!in(what, 0, 13)) {
            return no(1);
        }
        if (!node(i)) {
            return no(2);
        }
        Point p = now.points.get(i);
        int children = 0;
        for (int j = 0; j < now.size(); j++) {
            Integer parent = now.points.get(j).parent;
            children += bit(parent != null && parent == i) << j;
        }
        return yes(new Integer[] {p.work, p.done, p.sent, p.got, p.parent, bit(p.inTree), p.owes, p.tally,
            bit(p.black), p.weight, children, p.waker == null ? 0 : p.waker.chain(), p.asleep,
            bit(p.record != null)}[what]);
    }

    int wire(int a, int b) {
        if (!node(a) || !node(b)) {
            return no(2);
        }
        return a == b ? no(4) : yes(now.wire[a][b]);
    }

    int row(int row, int what) {
        if (row < 0 || !in(what, 0, 3)) {
            return no(1);
        }
        return row >= now.rows.size() ? no(5) : yes(now.rows.get(row)[what]);
    }

    int letter(int i, int what) {
        if (i < 0 || !in(what, 0, 7)) {
            return no(1);
        }
        if (i >= now.way.size()) {
            return no(5);
        }
        Letter l = now.way.get(i);
        return yes(new int[] {l.kind, l.from, l.to, l.left, l.load, l.weight, l.kind == 0 ? l.chain() : 0,
            bit(l.red)}[what]);
    }

    int watch(int w, int what) {
        if (!in(what, 0, 5)) {
            return no(1);
        }
        if (!in(w, 0, 3)) {
            return no(2);
        }
        int owed = 0;
        int deep = 0;
        for (int i = 0; i < now.size(); i++) {
            owed += now.points.get(i).owes;
            deep = Math.max(deep, now.depth(i));
        }
        int[] wave = now.waves.isEmpty() ? new int[2] : now.waves.get(now.waves.size() - 1);
        Integer[][] all = {
            {now.told[0], now.signals(0), now.treeMost, 0, owed, deep},
            {now.told[1], now.signals(1), now.rounds, now.tokenAt, now.tokenSum, bit(now.tokenBlack)},
            {now.told[2], now.signals(2), now.minted, 0, now.due(), now.pool},
            {now.told[3], now.signals(3), now.waves.size(), now.visitorAt, wave[0], wave[1]}};
        return yes(all[w][what]);
    }

    int lag(int w) {
        if (!in(w, 0, 3)) {
            return no(2);
        }
        return now.told[w] == null ? no(5) : yes(now.told[w] - now.truth);
    }

    int bound(int w) {
        return in(w, 0, 3) ? yes(now.bound(w)) : no(2);
    }

    int best(int what) {
        if (!in(what, 0, 1)) {
            return no(1);
        }
        int found = NONE;
        int least = Integer.MAX_VALUE;
        for (int w = 0; w < 4; w++) {
            if (now.told[w] != null) {
                int x = what == 0 ? now.told[w] - now.truth : now.signals(w);
                if (x < least) {
                    least = x;
                    found = w;
                }
            }
        }
        return found == NONE ? no(5) : yes(found);
    }

    int weights(int what) {
        if (!in(what, 0, 3)) {
            return no(1);
        }
        int nodes = now.points.stream().mapToInt(p -> p.weight).sum();
        int letters = now.way.stream().mapToInt(l -> l.weight).sum();
        return yes(new int[] {nodes, letters, now.pool, now.due()}[what]);
    }

    int last(int what) {
        if (!in(what, 0, 3)) {
            return no(1);
        }
        if (now.truth == null || now.points.get(now.lastIdle).waker == null) {
            return no(5);
        }
        Letter l = now.points.get(now.lastIdle).waker;
        return yes(new int[] {l.chain(), l.from, l.to, l.cameIn}[what]);
    }

    int ledger(int a, int b, int what) {
        if (!in(what, 0, 3)) {
            return no(1);
        }
        if (!node(a) || !node(b)) {
            return no(2);
        }
        if (a == b) {
            return no(4);
        }
        int works = 0;
        int signals = 0;
        int ticks = 0;
        for (Letter l : now.allSent) {
            if (l.from == a && l.to == b) {
                works += bit(l.kind == 0);
                signals += bit(l.kind != 0);
                ticks += l.ticks;
            }
        }
        return yes(new int[] {works, signals, ticks, now.most[a][b]}[what]);
    }

    int cutting(int what) {
        if (!in(what, 0, 8)) {
            return no(1);
        }
        if (now.cuts == 0) {
            return no(5);
        }
        int bits = 0;
        int[] sum = new int[3];
        for (int i = 0; i < now.size(); i++) {
            int[] r = now.points.get(i).record;
            if (r != null) {
                bits |= 1 << i;
                for (int k = 0; k < 3; k++) {
                    sum[k] += r[k];
                }
            }
        }
        boolean whole = now.wholeIn != null;
        return yes(new Integer[] {bits, bit(whole), sum[0], sum[1], sum[2], now.crossed, now.crossedLoads,
            bit(whole && sum[0] == 0 && sum[1] == sum[2]), now.wholeIn}[what]);
    }

    int recorded(int i, int what) {
        if (!in(what, 0, 2)) {
            return no(1);
        }
        if (!node(i)) {
            return no(2);
        }
        return now.points.get(i).record == null ? no(5) : yes(now.points.get(i).record[what]);
    }

    int event(int i, int what) {
        if (!in(i, 0, 23) || !in(what, 0, 2)) {
            return no(1);
        }
        int at = now.events.size() - 1 - i;
        return at < 0 ? no(5) : yes(now.events.get(at)[what]);
    }

    int begin(int load) {
        if (!in(load, 1, 200)) {
            return no(1);
        }
        if (now.workGoesOn()) {
            return no(6);
        }
        now.begin(load);
        return yes(now.tick);
    }

    int plan(int a, int after, int b, int load) {
        if (!in(after, 1, 200) || !in(load, 1, 20)) {
            return no(1);
        }
        if (!node(a) || !node(b)) {
            return no(2);
        }
        if (now.rows.size() == 40) {
            return no(3);
        }
        if (a == b) {
            return no(4);
        }
        now.rows.add(new int[] {a, after, b, load});
        return yes(now.rows.size() - 1);
    }

    int drop(int row) {
        if (row < 0) {
            return no(1);
        }
        if (row >= now.rows.size()) {
            return no(5);
        }
        now.rows.remove(row);
        return yes(now.rows.size());
    }

    int wires(int a, int b, int ticks) {
        if (!in(ticks, 1, 9)) {
            return no(1);
        }
        if (!node(a) || !node(b)) {
            return no(2);
        }
        if (a == b) {
            return no(4);
        }
        int before = now.wire[a][b];
        now.wire[a][b] = ticks;
        return yes(before);
    }

    int add() {
        if (now.size() == 8) {
            return no(3);
        }
        if (now.way.stream().anyMatch(l -> l.kind != 0)) {
            return no(5);
        }
        if (now.workGoesOn()) {
            return no(6);
        }
        now.points.add(new Point());
        now.nobodyRed();
        return yes(now.size() - 1);
    }

    int sleep(int i, int ticks) {
        if (!in(ticks, 0, 50)) {
            return no(1);
        }
        if (!node(i)) {
            return no(2);
        }
        int before = now.points.get(i).asleep;
        now.points.get(i).asleep = ticks;
        return yes(before);
    }

    int cut(int i) {
        if (!node(i)) {
            return no(2);
        }
        if (now.began == null) {
            return no(7);
        }
        now.cut(i);
        return yes(now.cuts);
    }

    int tick(int many) {
        if (!in(many, 1, 300)) {
            return no(1);
        }
        for (int i = 0; i < many; i++) {
            now.tick();
        }
        return yes(now.tick);
    }

    int mark() {
        if (marks.size() == 3) {
            return no(3);
        }
        marks.add(now.copy());
        return yes(marks.size());
    }

    int back() {
        if (marks.isEmpty()) {
            return no(5);
        }
        now = marks.remove(marks.size() - 1);
        return yes(marks.size());
    }

    int ends() {
        if (now.began == null) {
            return no(7);
        }
        State s = now.copy();
        while (s.truth == null) {
            s.tick();
        }
        return yes(s.tick - now.tick);
    }

    int tells(int w) {
        if (!in(w, 0, 3)) {
            return no(2);
        }
        if (now.began == null) {
            return no(7);
        }
        State s = now.copy();
        while (s.told[w] == null) {
            s.tick();
        }
        return yes(s.tick - now.tick);
    }

    int whole(int i) {
        if (!node(i)) {
            return no(2);
        }
        if (now.began == null) {
            return no(7);
        }
        State s = now.copy();
        s.cut(i);
        for (int t = 1; t <= 2000; t++) {
            s.tick();
            if (s.wholeIn != null) {
                return yes(t);
            }
        }
        return no(8);
    }

    private State run(State s, int load) {
        s.begin(load);
        while (s.truth == null || s.told[0] == null || s.told[1] == null || s.told[2] == null || s.told[3] == null) {
            s.tick();
        }
        return s;
    }

    int would(int load, int w, int what) {
        if (!in(load, 1, 200) || !in(what, 0, 3)) {
            return no(1);
        }
        if (!in(w, 0, 3)) {
            return no(2);
        }
        if (now.workGoesOn()) {
            return no(6);
        }
        State s = run(now.copy(), load);
        return yes(new int[] {s.truth - now.tick, s.told[w] - now.tick, s.told[w] - s.truth, s.signals(w)}[what]);
    }

    int with(int load, int w, int a, int b, int ticks) {
        if (!in(load, 1, 200) || !in(ticks, 1, 9)) {
            return no(1);
        }
        if (!in(w, 0, 3) || !node(a) || !node(b)) {
            return no(2);
        }
        if (a == b) {
            return no(4);
        }
        if (now.workGoesOn()) {
            return no(6);
        }
        State s = now.copy();
        s.wire[a][b] = ticks;
        run(s, load);
        return yes(s.told[w] - s.truth);
    }

    int margin(int load, int w) {
        if (!in(load, 1, 200)) {
            return no(1);
        }
        if (!in(w, 0, 3)) {
            return no(2);
        }
        if (now.workGoesOn()) {
            return no(6);
        }
        State s = run(now.copy(), load);
        return yes(now.bound(w) - (s.told[w] - s.truth));
    }

    int quickest(int load) {
        if (!in(load, 1, 200)) {
            return no(1);
        }
        if (now.workGoesOn()) {
            return no(6);
        }
        State s = run(now.copy(), load);
        int found = 0;
        for (int w = 1; w < 4; w++) {
            found = s.told[w] < s.told[found] ? w : found;
        }
        return yes(found);
    }

    private int sentWith(int load) {
        State s = now.copy();
        s.begin(load);
        while (s.truth == null) {
            s.tick();
        }
        return s.workSent();
    }

    int enough() {
        if (now.workGoesOn()) {
            return no(6);
        }
        int all = sentWith(200);
        int load = 1;
        while (sentWith(load) != all) {
            load++;
        }
        return yes(load);
    }
}
