/** Promises 20 to 24: match, worth, rests, give, given. */
public final class SeasonTest {
    private static final Check CHECK = new Check();

    public static void main(String[] args) {
        matches();
        worths();
        rests();
        restsKept();
        sparedKept();
        sparedForFinalsOnly();
        firstSixStrips();
        firstOfSeveral();
        impossible();
        alwaysAsItIsNow();
        eightMatches();
        CHECK.end();
    }

    private static void matches() {
        PitchSquare x = new PitchSquare();
        CHECK.refused(x, "match day -1", x.match(-1, 0), 2);
        CHECK.refused(x, "match day 1000", x.match(1000, 0), 2);
        CHECK.refused(x, "match rank -1", x.match(0, -1), 2);
        CHECK.refused(x, "match rank 10", x.match(0, 10), 2);
        for (int i = 0; i < 8; i++) {
            CHECK.due("match", x.match(i * 100, i), i);
            if (i < 7) {
                CHECK.refused(x, "match on the same day", x.match(i * 100, 0), 7);
                CHECK.refused(x, "match on the same day, bad", x.match(i * 100, 10), 2);
            }
        }
        CHECK.refused(x, "match the ninth", x.match(999, 0), 3);
        CHECK.refused(x, "match the ninth, same day", x.match(0, 0), 3);
        CHECK.refused(x, "match the ninth, bad", x.match(1000, 0), 2);
        PitchSquare y = new PitchSquare();
        y.step();
        CHECK.due("match on a day that is gone", y.match(0, 9), 0);
        CHECK.due("match on the last day", y.match(999, 0), 1);
    }

    private static void worths() {
        PitchSquare x = Check.withStrips(8);
        CHECK.refused(x, "worth of no match", x.worth(0, 0, 0), 1);
        x.match(0, 0);
        CHECK.refused(x, "worth(-1, ..)", x.worth(-1, 0, 0), 1);
        CHECK.refused(x, "worth(0, 8, ..)", x.worth(0, 8, 101), 1);
        CHECK.refused(x, "worth(0, -1, ..)", x.worth(0, -1, 0), 1);
        CHECK.refused(x, "worth -1", x.worth(0, 0, -1), 2);
        CHECK.refused(x, "worth 101", x.worth(0, 0, 101), 2);
        CHECK.yes("worth of the last strip", x.worth(0, 7, 100));
        CHECK.due("give()", x.give(), 50);
        CHECK.yes("worth 100", x.worth(0, 5, 100));
        CHECK.due("give()", x.give(), 100);
        CHECK.due("given(0)", x.given(0), 5);
        CHECK.yes("worth 0", x.worth(0, 5, 0));
        CHECK.due("give()", x.give(), 50);
    }

    private static void rests() {
        PitchSquare x = new PitchSquare();
        CHECK.refused(x, "rests(-1, 0)", x.rests(-1, 0), 2);
        CHECK.refused(x, "rests(61, 0)", x.rests(61, 0), 2);
        CHECK.refused(x, "rests(0, -1)", x.rests(0, -1), 2);
        CHECK.refused(x, "rests(0, 101)", x.rests(0, 101), 2);
        CHECK.yes("rests(60, 100)", x.rests(60, 100));
        CHECK.yes("rests(0, 0)", x.rests(0, 0));
    }

    private static PitchSquare twoMatches(int earlier, int rankEarlier, int later, int rankLater) {
        PitchSquare x = Check.withStrips(1);
        x.match(later, rankLater);
        x.match(earlier, rankEarlier);
        return x;
    }

    private static void restsKept() {
        CHECK.due("10 days apart", twoMatches(5, 0, 15, 0).give(), 100);
        PitchSquare x = twoMatches(5, 0, 14, 0);
        CHECK.refused(x, "9 days apart", x.give(), 6);
        CHECK.refused(x, "9 days apart, given", x.given(1), 6);
        x.rests(61, 0);
        CHECK.refused(x, "9 days apart, rests refused", x.give(), 6);
        x.rests(9, 0);
        CHECK.due("9 days apart, rest 9", x.give(), 100);
        PitchSquare y = twoMatches(5, 0, 6, 0);
        y.rests(0, 0);
        CHECK.due("rest 0", y.give(), 100);
    }

    private static void sparedKept() {
        PitchSquare x = twoMatches(5, 0, 25, 9);
        CHECK.refused(x, "20 days ahead of the final", x.give(), 6);
        CHECK.due("21 days ahead of the final", twoMatches(5, 0, 26, 9).give(), 100);
        x.rests(10, 19);
        CHECK.due("20 days ahead of the final, 19 spared", x.give(), 100);
        x.strip();
        x.rests(10, 20);
        CHECK.due("on another strip", x.give(), 100);
        CHECK.due("given(0)", x.given(0), 0);
        CHECK.due("given(1)", x.given(1), 1);
    }

    private static void sparedForFinalsOnly() {
        CHECK.due("rank 8", twoMatches(5, 0, 20, 8).give(), 100);
        CHECK.due("behind the final", twoMatches(5, 9, 20, 8).give(), 100);
        PitchSquare x = twoMatches(5, 9, 20, 9);
        CHECK.refused(x, "two finals", x.give(), 6);
        PitchSquare y = twoMatches(5, 9, 14, 0);
        CHECK.refused(y, "rest behind the final", y.give(), 6);
    }

    private static void firstSixStrips() {
        PitchSquare x = Check.withStrips(8);
        for (int i = 0; i < 6; i++) {
            x.match(i, 0);
        }
        CHECK.due("give() of six", x.give(), 300);
        for (int i = 0; i < 6; i++) {
            CHECK.due("given(" + i + ")", x.given(i), i);
        }
        x.match(6, 0);
        CHECK.refused(x, "give() of seven", x.give(), 6);
        x.rests(6, 0);
        CHECK.due("give() of seven, rest 6", x.give(), 350);
        CHECK.due("given(6)", x.given(6), 0);
    }

    /** Matches are compared in the order they came, not by their days. */
    private static void firstOfSeveral() {
        PitchSquare x = Check.withStrips(2);
        x.match(8, 0);
        x.match(4, 0);
        CHECK.due("give()", x.give(), 100);
        CHECK.due("given(0)", x.given(0), 0);
        CHECK.due("given(1)", x.given(1), 1);
        x.worth(1, 0, 60);
        CHECK.due("give()", x.give(), 110);
        CHECK.due("given(0)", x.given(0), 1);
        CHECK.due("given(1)", x.given(1), 0);
        x.worth(0, 0, 60);
        CHECK.due("give()", x.give(), 110);
        CHECK.due("given(0)", x.given(0), 0);
        CHECK.due("given(1)", x.given(1), 1);
    }

    private static void impossible() {
        PitchSquare x = new PitchSquare();
        CHECK.refused(x, "given(0) without matches", x.given(0), 1);
        x.match(0, 0);
        CHECK.refused(x, "give() without strips", x.give(), 6);
        CHECK.refused(x, "given(0) without strips", x.given(0), 6);
        CHECK.refused(x, "given(1)", x.given(1), 1);
        CHECK.refused(x, "given(-1)", x.given(-1), 1);
        x.strip();
        x.worth(0, 0, 0);
        CHECK.due("give() of worth 0", x.give(), 0);
        CHECK.due("status()", x.status(), 0);
        CHECK.due("given(0)", x.given(0), 0);
    }

    /** given() asks for the best giving as things are, whether give() was called or not. */
    private static void alwaysAsItIsNow() {
        PitchSquare x = Check.withStrips(1);
        x.match(0, 0);
        CHECK.due("given(0)", x.given(0), 0);
        x.strip();
        x.worth(0, 1, 51);
        CHECK.due("given(0) behind worth", x.given(0), 1);
        x.match(5, 0);
        CHECK.due("given(1) behind match", x.given(1), 0);
        x.rests(5, 0);
        x.worth(1, 1, 51);
        CHECK.due("given(1) behind rests", x.given(1), 1);
        x.match(7, 0);
        x.match(8, 0);
        CHECK.refused(x, "give() behind matches", x.give(), 6);
        x.strip();
        CHECK.due("give() behind strip", x.give(), 202);
    }

    private static void eightMatches() {
        PitchSquare x = Check.withStrips(6);
        for (int i = 0; i < 8; i++) {
            x.match(20 * i, i == 7 ? 9 : 0);
            for (int strip = 0; strip < 6; strip++) {
                x.worth(i, strip, 100);
            }
        }
        CHECK.due("give()", x.give(), 800);
        for (int i = 0; i < 7; i++) {
            CHECK.due("given(" + i + ")", x.given(i), 0);
        }
        CHECK.due("given(7)", x.given(7), 1);
        for (int i = 0; i < 8; i++) {
            for (int strip = 0; strip < 5; strip++) {
                x.worth(i, strip, 0);
            }
        }
        CHECK.due("give()", x.give(), 700);
        CHECK.due("given(5)", x.given(5), 5);
        CHECK.due("given(6)", x.given(6), 0);
        CHECK.due("given(7)", x.given(7), 5);
    }
}
