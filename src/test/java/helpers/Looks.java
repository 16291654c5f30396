import java.util.ArrayList;
import java.util.List;

/** All that can be seen of an object, in parts that keep within 512 calls: what two objects must have alike. */
final class Looks {
    static final int PARTS = 6;

    private final WorkEnds x;
    private final List<String> seen = new ArrayList<>();

    private Looks(WorkEnds x) {
        this.x = x;
    }

    static List<String> part(WorkEnds x, int part) {
        Looks looks = new Looks(x);
        int nodes = x.many(0);
        switch (part) {
            case 0 -> looks.nodesAndWatches(nodes);
            case 1 -> looks.wiresAndRows(nodes);
            case 2 -> looks.ledgers(nodes);
            case 3 -> looks.letters();
            case 4 -> looks.eventsAndPaper(nodes);
            default -> looks.tape();
        }
        return looks.seen;
    }

    private void see(String call, int answer) {
        seen.add(call + " = " + answer + " with STATUS " + x.status());
    }

    private void nodesAndWatches(int nodes) {
        seen.add("fault(0) = " + x.fault(0));
        seen.add("fault(1) = " + x.fault(1));
        for (int what = 0; what < 12; what++) {
            see("many(" + what + ")", x.many(what));
        }
        for (int i = 0; i < nodes; i++) {
            for (int what = 0; what < 14; what++) {
                see("node(" + i + ", " + what + ")", x.node(i, what));
            }
        }
        for (int w = 0; w < 4; w++) {
            for (int what = 0; what < 6; what++) {
                see("watch(" + w + ", " + what + ")", x.watch(w, what));
            }
            see("weights(" + w + ")", x.weights(w));
            see("last(" + w + ")", x.last(w));
        }
    }

    private void wiresAndRows(int nodes) {
        for (int a = 0; a < nodes; a++) {
            for (int b = 0; b < nodes; b++) {
                if (a != b) {
                    see("wire(" + a + ", " + b + ")", x.wire(a, b));
                }
            }
        }
        int rows = x.many(1);
        for (int row = 0; row < rows; row++) {
            for (int what = 0; what < 4; what++) {
                see("row(" + row + ", " + what + ")", x.row(row, what));
            }
        }
    }

    private void ledgers(int nodes) {
        for (int a = 0; a < nodes; a++) {
            for (int b = 0; b < nodes; b++) {
                for (int what = 0; a != b && what < 4; what++) {
                    see("ledger(" + a + ", " + b + ", " + what + ")", x.ledger(a, b, what));
                }
            }
        }
    }

    private void letters() {
        int letters = Math.min(30, x.many(6) + x.many(7));
        for (int i = 0; i < letters; i++) {
            for (int what = 0; what < 8; what++) {
                see("letter(" + i + ", " + what + ")", x.letter(i, what));
            }
        }
        see("letter() behind them", x.letter(letters, 0));
    }

    private void eventsAndPaper(int nodes) {
        for (int i = 0; i < 24; i++) {
            for (int what = 0; what < 3; what++) {
                see("event(" + i + ", " + what + ")", x.event(i, what));
            }
        }
        for (int what = 0; what < 9; what++) {
            see("cutting(" + what + ")", x.cutting(what));
        }
        for (int i = 0; i < nodes; i++) {
            for (int what = 0; what < 3; what++) {
                see("recorded(" + i + ", " + what + ")", x.recorded(i, what));
            }
            see("whole(" + i + ")", x.whole(i));
        }
        for (int w = 0; w < 4; w++) {
            see("lag(" + w + ")", x.lag(w));
            see("bound(" + w + ")", x.bound(w));
            see("tells(" + w + ")", x.tells(w));
            see("would(3, " + w + ", 3)", x.would(3, w, 3));
        }
        see("ends()", x.ends());
        see("enough()", x.enough());
        see("best(0)", x.best(0));
        see("best(1)", x.best(1));
    }

    /** How much is on the tape, and what it reads as: blanks behind it change no TEXT. */
    private void tape() {
        int fed = x.feed(0x20202020, 0x20202020, 0x20202020, 0x20202020, 0x20202020);
        seen.add("feed() = " + fed);
        see("load() of all", x.load(fed == WorkEnds.NONE ? 600 : fed));
        seen.add("fault(0) = " + x.fault(0));
        seen.add("fault(1) = " + x.fault(1));
        wiresAndRows(x.many(0));
    }
}
