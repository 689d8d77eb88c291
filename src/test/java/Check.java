/** Compares answers with those that are due, prints the wrong ones, and ends a test. */
final class Check {
    private int wrong = 0;
    private int done = 0;

    void due(String call, long got, long want) {
        done++;
        if (got != want) {
            wrong++;
            System.out.println(call + " answered " + got + ", due is " + want);
        }
    }

    void yes(String call, boolean got) {
        due(call, got ? 1 : 0, 1);
    }

    void no(String call, boolean got) {
        due(call, got ? 1 : 0, 0);
    }

    /** A call that is refused: its answer is NONE and the status is as given. */
    void refused(PitchSquare x, String call, int got, int status) {
        due(call, got, PitchSquare.NONE);
        due("status() behind " + call, x.status(), status);
    }

    void refused(PitchSquare x, String call, boolean got, int status) {
        no(call, got);
        due("status() behind " + call, x.status(), status);
    }

    void fraction(PitchSquare x, String call, long upper, long lower) {
        due("upper() behind " + call, x.upper(), upper);
        due("lower() behind " + call, x.lower(), lower);
    }

    /** The seven numbers that told() gives of a strip. */
    void state(PitchSquare x, int strip, int... want) {
        for (int what = 0; what < want.length; what++) {
            due("told(" + strip + ", " + what + ")", x.told(strip, what), want[what]);
        }
    }

    boolean isClean() {
        return wrong == 0;
    }

    void end() {
        System.out.println(done + " answers, " + wrong + " wrong");
        if (wrong != 0 || done == 0) {
            System.exit(1);
        }
    }

    static PitchSquare withStrips(int many) {
        PitchSquare x = new PitchSquare();
        for (int i = 0; i < many; i++) {
            x.strip();
        }
        return x;
    }

    /** Steps until it is that day. */
    static void goTo(PitchSquare x, int day) {
        for (int turn = 0; turn < 1000 && x.day() < day; turn++) {
            x.step();
        }
    }
}
