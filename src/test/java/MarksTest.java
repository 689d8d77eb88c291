/** Promises 25 to 29: mark, part, fair, upper, lower. */
public final class MarksTest {
    private static final Check CHECK = new Check();

    public static void main(String[] args) {
        refusals();
        parts();
        fairs();
        hundred();
        fractionTold();
        CHECK.end();
    }

    private static PitchSquare withMatches(int many) {
        PitchSquare x = new PitchSquare();
        for (int i = 0; i < many; i++) {
            x.match(i, 0);
        }
        return x;
    }

    private static void refusals() {
        PitchSquare x = withMatches(1);
        CHECK.refused(x, "mark(1, ..)", x.mark(1, 9, 99), 1);
        CHECK.refused(x, "mark(-1, ..)", x.mark(-1, 0, 0), 1);
        CHECK.refused(x, "mark result -1", x.mark(0, -1, 0), 2);
        CHECK.refused(x, "mark result 3", x.mark(0, 3, 0), 2);
        CHECK.refused(x, "mark -1", x.mark(0, 0, -1), 2);
        CHECK.refused(x, "mark 11", x.mark(0, 0, 11), 2);
        CHECK.refused(x, "part(-1)", x.part(-1), 2);
        CHECK.refused(x, "part(3)", x.part(3), 2);
        CHECK.refused(x, "fair(1)", x.fair(1), 1);
        CHECK.refused(x, "fair(-1)", x.fair(-1), 1);
        CHECK.refused(x, "fair(0)", x.fair(0), 5);
        CHECK.yes("mark 0", x.mark(0, 2, 0));
        CHECK.yes("mark 10", x.mark(0, 0, 10));
    }

    private static void part(PitchSquare x, int result, long upper, long lower) {
        CHECK.yes("part(" + result + ")", x.part(result));
        CHECK.due("status()", x.status(), 0);
        CHECK.fraction(x, "part(" + result + ")", upper, lower);
    }

    private static void fair(PitchSquare x, int match, long upper, long lower) {
        CHECK.yes("fair(" + match + ")", x.fair(match));
        CHECK.fraction(x, "fair(" + match + ")", upper, lower);
    }

    private static void parts() {
        PitchSquare x = withMatches(2);
        part(x, 0, 0, 1);
        x.mark(0, 0, 7);
        part(x, 0, 0, 1);
        x.mark(0, 0, 8);
        x.mark(1, 1, 3);
        // Those who won 15/2, those who lost 3, all 6.
        part(x, 0, 3, 2);
        part(x, 1, -3, 1);
        // None drew: the part is 0, not 0 less the mean of all.
        part(x, 2, 0, 1);
        x.mark(1, 2, 0);
        part(x, 2, -9, 2);
        part(x, 1, -3, 2);
    }

    private static void fairs() {
        PitchSquare x = withMatches(3);
        x.mark(0, 0, 9);
        x.mark(0, 1, 4);
        x.mark(1, 0, 6);
        x.mark(1, 0, 6);
        x.mark(1, 2, 1);
        // All 26/5; parts: won 7 - 26/5 = 9/5, lost -6/5, drew -21/5.
        // Match 0: (9 - 9/5 + 4 + 6/5) / 2 = (62/5) / 2 = 31/5.
        fair(x, 0, 31, 5);
        // Match 1: (6 + 6 - 18/5 + 1 + 21/5) / 3 = (68/5) / 3.
        fair(x, 1, 68, 15);
        CHECK.refused(x, "fair(2)", x.fair(2), 5);
        CHECK.fraction(x, "fair(2) refused", 68, 15);
        // A match that is marked by one result alone still loses that part.
        x.mark(2, 0, 0);
        fair(x, 2, -11, 12);
    }

    private static void hundred() {
        PitchSquare x = withMatches(8);
        boolean all = true;
        for (int i = 0; i < 100; i++) {
            all &= x.mark(i % 7, i % 3, i % 11);
        }
        CHECK.yes("100 marks", all);
        CHECK.refused(x, "mark the 101st", x.mark(7, 0, 0), 3);
        CHECK.refused(x, "mark the 101st, bad", x.mark(7, 0, 11), 2);
        CHECK.refused(x, "mark the 101st, no match", x.mark(8, 0, 11), 1);
        CHECK.refused(x, "fair(7)", x.fair(7), 5);
    }

    private static void fractionTold() {
        PitchSquare x = Check.withStrips(1);
        x.match(0, 0);
        x.mark(0, 0, 4);
        x.mark(0, 1, 3);
        x.measure(0, 0, 6);
        x.measure(0, 0, 3);
        x.reads(0, 0);
        CHECK.fraction(x, "reads", 9, 2);
        x.part(1);
        CHECK.fraction(x, "part", -1, 2);
        x.fair(0);
        CHECK.fraction(x, "fair", 7, 2);
        x.fair(1);
        x.reads(0, 7);
        x.part(5);
        x.step();
        CHECK.fraction(x, "calls without a fraction", 7, 2);
    }
}
