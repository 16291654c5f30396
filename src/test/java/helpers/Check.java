/** Counts the answers that are not as due, and prints them. */
final class Check {
    private int asked;
    private int wrong;

    void due(String call, long got, long want) {
        asked++;
        if (got != want) {
            wrong++;
            System.out.println(call + " answered " + got + ", due is " + want);
        }
    }

    /** A call that is refused: NONE, with that STATUS. */
    void refused(WorkEnds x, String call, int got, int status) {
        due(call, got, WorkEnds.NONE);
        due("status() after " + call, x.status(), status);
    }

    /** A call that is answered, with STATUS 0: so -1 is told from NONE. */
    void fine(WorkEnds x, String call, int got, int want) {
        due(call, got, want);
        due("status() after " + call, x.status(), 0);
    }

    void holds(String what, boolean holds) {
        due(what, holds ? 1 : 0, 1);
    }

    void end() {
        System.out.println(asked + " answers, " + wrong + " not as due");
        if (wrong != 0) {
            System.exit(1);
        }
    }
}
