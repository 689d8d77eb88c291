/** Boundaries of promises 25 to 29, and of marks, part and fair in part 3. */
public final class MarkEdgesTest {
    private static final Edge EDGE = new Edge();
    private static final String MARKS = "Terms 3, promise 25";
    private static final String PART = "Terms 3, promise 26";
    private static final String FAIR = "Terms 3, promise 27";
    private static final String P25 = "Promise 25";
    private static final String P26 = "Promise 26";
    private static final String P27 = "Promise 27";
    private static final String P28 = "Promise 28";
    private static final String P29 = "Promise 29";

    public static void main(String[] args) {
        results();
        numbers();
        markOfNoMatch();
        atMostHundred();
        aMarkMore();
        partOfWhat();
        meanLessMean();
        withoutAny();
        fairOfNoMatch();
        noMarks();
        eachLessItsPart();
        partsOfAllMatches();
        manyMarks();
        toldLatest();
        onlyWithStatusZero();
        noCommonDivisor();
        aboveZero();
        EDGE.end();
    }

    private static long mark(PitchSquare x, int match, int result, int mark) {
        return Edge.number(x.mark(match, result, mark));
    }

    private static void results() {
        EDGE.of(MARKS, "by a captain who won (0), lost (1), or drew (2)");
        EDGE.ends(Leads::square, "mark(0, #, 5)", (x, result) -> mark(x, 0, result, 5), Edge.NO, 0, 2);
    }

    private static void numbers() {
        EDGE.of(MARKS, "0 to 10");
        EDGE.ends(Leads::square, "mark(0, 1, #)", (x, mark) -> mark(x, 0, 1, mark), Edge.NO, 0, 10);
        for (int mark : new int[] {0, 1, 9, 10}) {
            PitchSquare x = Edge.led(Leads.matches(1));
            x.mark(0, 1, mark);
            fair("of " + mark, x, 0, mark, 1);
        }
    }

    private static void markOfNoMatch() {
        EDGE.of(P25, "(1; 2; 3)");
        EDGE.numbered(Leads::square, "mark(#, 0, 5)", (x, match) -> mark(x, match, 0, 5), Edge.NO, 3);
        EDGE.numbered(Leads.matches(8), "mark(#, 0, 5)", (x, match) -> mark(x, match, 0, 5), Edge.NO,
                8);
        EDGE.refused(Leads::nothing, "mark(0, 0, 5) without matches", x -> mark(x, 0, 0, 5), Edge.NO,
                1);
    }

    /** Marks of all matches and results together: so many of them. */
    private static Edge.Lead marked(int many) {
        return x -> {
            Leads.addMatches(x, 8);
            for (int i = 0; i < many; i++) {
                x.mark(i % 7, i % 3, i % 11);
            }
        };
    }

    private static void atMostHundred() {
        EDGE.of(MARKS, "MARKS, at most 100");
        EDGE.taken(marked(98), "mark() the 99th", x -> mark(x, 0, 0, 5), Edge.NO);
        EDGE.taken(marked(99), "mark() the 100th", x -> mark(x, 7, 2, 5), Edge.NO);
        EDGE.refused(marked(100), "mark() the 101st", x -> mark(x, 0, 0, 5), Edge.NO, 3);
        EDGE.refused(marked(100), "mark() the 101st of a match without marks",
                x -> mark(x, 7, 2, 5), Edge.NO, 3);
        EDGE.refused(marked(101), "mark() the 102nd", x -> mark(x, 0, 0, 5), Edge.NO, 3);
        // The 100th counts, the 101st does not.
        PitchSquare x = Edge.led(marked(99));
        x.mark(7, 2, 5);
        EDGE.yes("fair(7)", x.fair(7));
        PitchSquare y = Edge.led(marked(100));
        y.mark(7, 2, 5);
        EDGE.due("fair(7) behind a refused one", Edge.number(y.fair(7)), 0);
        EDGE.due("status()", y.status(), 5);
    }

    private static void part(String what, PitchSquare x, int result, long upper, long lower) {
        EDGE.yes("part(" + result + ") " + what, x.part(result));
        EDGE.due("status()", x.status(), 0);
        EDGE.fraction("part(" + result + ") " + what, x, upper, lower);
    }

    private static void fair(String what, PitchSquare x, int match, long upper, long lower) {
        EDGE.yes("fair(" + match + ") " + what, x.fair(match));
        EDGE.due("status()", x.status(), 0);
        EDGE.fraction("fair(" + match + ") " + what, x, upper, lower);
    }

    private static void aMarkMore() {
        EDGE.of(P25, "A MARK more");
        // The same mark twice is two marks.
        PitchSquare x = Edge.led(Leads.matches(2));
        x.mark(0, 0, 9);
        x.mark(0, 0, 9);
        x.mark(1, 1, 3);
        part("of two alike", x, 0, 2, 1);
        part("of one", x, 1, -4, 1);
    }

    private static void partOfWhat() {
        EDGE.of(P26, "the PART of a result (2)");
        EDGE.ends(Leads::square, "part(#)", (x, result) -> Edge.number(x.part(result)), Edge.NO, 0, 2);
        EDGE.ends(Leads::nothing, "part(#) without marks",
                (x, result) -> Edge.number(x.part(result)), Edge.NO, 0, 2);
    }

    private static void meanLessMean() {
        EDGE.of(PART, "the mean of MARKS by those less the mean of all MARKS");
        PitchSquare x = Edge.led(Leads.matches(2));
        x.mark(0, 0, 8);
        x.mark(1, 0, 7);
        x.mark(0, 1, 0);
        // 15 by 2 and 0, of all 5.
        part("above", x, 0, 5, 2);
        part("below", x, 1, -5, 1);
        x.mark(1, 2, 5);
        part("just at the mean", x, 2, 0, 1);
        PitchSquare y = Edge.led(Leads.matches(1));
        y.mark(0, 2, 10);
        part("of one alone", y, 2, 0, 1);
        y.mark(0, 0, 0);
        part("of the least", y, 0, -5, 1);
        part("of the most", y, 2, 5, 1);
    }

    private static void withoutAny() {
        EDGE.of(PART, "0 without any");
        for (int result = 0; result < 3; result++) {
            part("without marks", new PitchSquare(), result, 0, 1);
            // Without any by those, though there are others.
            PitchSquare x = Edge.led(Leads.matches(1));
            x.mark(0, (result + 1) % 3, 10);
            x.mark(0, (result + 2) % 3, 1);
            part("without any of its own", x, result, 0, 1);
            // One mark of 0 is some.
            x.mark(0, result, 0);
            part("with one of 0", x, result, -11, 3);
        }
        // It is told as 0 by 1, whatever fraction was told ahead of it.
        PitchSquare z = Edge.led(Leads.both(Leads.strips(1), x -> {
            x.measure(0, 0, 1);
            x.measure(0, 0, 2);
            x.reads(0, 0);
        }));
        EDGE.fraction("reads()", z, 3, 2);
        part("behind reads()", z, 0, 0, 1);
    }

    private static void fairOfNoMatch() {
        EDGE.of(P27, "FAIR of a MATCH (1");
        Edge.Lead all = Leads.both(Leads.matches(3), x -> {
            for (int match = 0; match < 3; match++) {
                x.mark(match, match, 5 + match);
            }
        });
        EDGE.numbered(all, "fair(#)", (x, match) -> Edge.number(x.fair(match)), Edge.NO, 3);
        EDGE.refused(Leads::nothing, "fair(0) without matches", x -> Edge.number(x.fair(0)), Edge.NO,
                1);
    }

    private static void noMarks() {
        EDGE.of(P27, "5: it has no MARKS");
        EDGE.refused(Leads.matches(2), "fair(0) without marks", x -> Edge.number(x.fair(0)), Edge.NO,
                5);
        Edge.Lead other = Leads.both(Leads.matches(3), x -> {
            x.mark(1, 0, 7);
            x.mark(1, 1, 0);
            x.part(0);
        });
        EDGE.refused(other, "fair(0) beside one with marks", x -> Edge.number(x.fair(0)), Edge.NO, 5);
        EDGE.taken(other, "fair(1)", x -> Edge.number(x.fair(1)), Edge.NO);
        EDGE.refused(other, "fair(2) beside one with marks", x -> Edge.number(x.fair(2)), Edge.NO, 5);
        EDGE.taken(Leads.both(other, x -> x.mark(2, 2, 0)), "fair(2) with a mark of 0",
                x -> Edge.number(x.fair(2)), Edge.NO);
        EDGE.refused(Leads.both(other, x -> x.mark(2, 2, 11)), "fair(2) behind a refused mark",
                x -> Edge.number(x.fair(2)), Edge.NO, 5);
    }

    private static void eachLessItsPart() {
        EDGE.of(FAIR, "the mean of its MARKS, each less the PART of its result");
        PitchSquare x = Edge.led(Leads.matches(3));
        x.mark(0, 0, 9);
        x.mark(0, 1, 4);
        x.mark(1, 0, 6);
        x.mark(1, 0, 6);
        x.mark(1, 2, 1);
        // All 26 by 5; won 9 by 5, lost -6 by 5, drew -21 by 5.
        fair("9 won, 4 lost", x, 0, 31, 5);
        fair("6 and 6 won, 1 drew", x, 1, 68, 15);
        x.mark(2, 0, 0);
        // All 26 by 6, won 21 by 4: a part of 11 by 12.
        fair("0 won", x, 2, -11, 12);
    }

    private static void partsOfAllMatches() {
        EDGE.of(FAIR, "each less the PART of its result", "of all MATCHES together");
        PitchSquare x = Edge.led(Leads.matches(2));
        x.mark(0, 0, 8);
        fair("alone", x, 0, 8, 1);
        x.mark(1, 0, 2);
        // Won is 5 as all are: no part.
        fair("beside one that won", x, 0, 8, 1);
        x.mark(1, 1, 2);
        // All 4, won 5: a part of 1.
        fair("beside one that lost", x, 0, 7, 1);
        fair("of 2 won and 2 lost", x, 1, 5, 2);
    }

    /** 31 won, 32 lost and 37 drew, all of match 0 but a few: no common divisor but few. */
    private static void manyMarks() {
        EDGE.of("Terms 3, promises 27 to 29", "FRACTIONS");
        PitchSquare x = Edge.led(Leads.matches(2));
        for (int i = 0; i < 31; i++) {
            x.mark(i == 0 ? 1 : 0, 0, 10);
        }
        for (int i = 0; i < 32; i++) {
            x.mark(i == 0 ? 1 : 0, 1, i == 0 ? 1 : 0);
        }
        for (int i = 0; i < 37; i++) {
            x.mark(i == 0 ? 1 : 0, 2, i == 0 ? 4 : 5);
        }
        // All 495 by 100: 310, 1 and 184.
        part("won", x, 0, 101, 20);
        // 1 by 32 less 99 by 20, and 184 by 37 less 99 by 20.
        part("lost", x, 1, -787, 160);
        part("drew", x, 2, 17, 740);
        // 10, 1 and 4 less 10, 1 by 32 and 184 by 37, and three times 99 by 20; of that a third.
        long under = 32L * 37 * 20;
        long over = 5 * under - 20 * 37 - 184L * 32 * 20 + 3 * 99L * 32 * 37;
        long common = gcd(over, 3 * under);
        fair("one of each", x, 1, over / common, 3 * under / common);
    }

    private static long gcd(long a, long b) {
        return b == 0 ? a : gcd(b, a % b);
    }

    private static void toldLatest() {
        EDGE.of(P28, "The upper number of the FRACTION told latest");
        PitchSquare x = Edge.led(Leads.both(Leads.strips(1), Leads.matches(1)));
        EDGE.fraction("nothing", x, 0, 1);
        x.mark(0, 0, 4);
        x.mark(0, 1, 3);
        x.measure(0, 0, 6);
        x.measure(0, 0, 3);
        EDGE.fraction("calls that tell none", x, 0, 1);
        x.reads(0, 0);
        EDGE.fraction("reads()", x, 9, 2);
        x.part(1);
        EDGE.fraction("part()", x, -1, 2);
        x.fair(0);
        EDGE.fraction("fair()", x, 7, 2);
        x.reads(0, 0);
        EDGE.fraction("reads() again", x, 9, 2);
        x.measure(0, 0, 0);
        EDGE.fraction("a measure behind it", x, 9, 2);
        EDGE.fraction("asking twice", x, 9, 2);
    }

    private static void onlyWithStatusZero() {
        EDGE.of(P28, "told latest with STATUS 0");
        PitchSquare x = Edge.led(Leads::square);
        EDGE.fraction("the square", x, 25, 4);
        x.reads(0, 7);
        EDGE.fraction("reads() with STATUS 5", x, 25, 4);
        x.reads(0, 1000);
        EDGE.fraction("reads() with STATUS 2", x, 25, 4);
        x.reads(3, 0);
        EDGE.fraction("reads() with STATUS 1", x, 25, 4);
        x.part(3);
        EDGE.fraction("part() with STATUS 2", x, 25, 4);
        x.fair(3);
        EDGE.fraction("fair() with STATUS 1", x, 25, 4);
        x.match(7, 0);
        x.fair(3);
        EDGE.fraction("fair() with STATUS 5", x, 25, 4);
    }

    private static void noCommonDivisor() {
        EDGE.of(P28, "without a common divisor with the lower one");
        int[][] sums = {{0, 0, 0, 1}, {0, 100, 50, 1}, {1, 2, 3, 2}, {50, 51, 101, 2}, {2, 4, 3, 1}};
        for (int[] sum : sums) {
            PitchSquare x = Edge.led(Leads.strips(1));
            x.measure(0, 0, sum[0]);
            x.measure(0, 0, sum[1]);
            x.reads(0, 0);
            EDGE.fraction("the mean of " + sum[0] + " and " + sum[1], x, sum[2], sum[3]);
        }
        // Six measures: by 1, 2, 3 and 6.
        int[][] sixes = {{6, 1, 1}, {3, 1, 2}, {2, 1, 3}, {4, 2, 3}, {1, 1, 6}, {5, 5, 6}, {0, 0, 1}};
        for (int[] six : sixes) {
            PitchSquare x = Edge.led(Leads.strips(1));
            for (int i = 0; i < 6; i++) {
                x.measure(0, 0, i == 0 ? six[0] : 0);
            }
            x.reads(0, 0);
            EDGE.fraction(six[0] + " by 6", x, six[1], six[2]);
        }
    }

    private static void aboveZero() {
        EDGE.of(P29, "Its lower number, above 0");
        EDGE.due("lower() of a new object", new PitchSquare().lower(), 1);
        PitchSquare x = Edge.led(Leads.matches(1));
        x.mark(0, 0, 1);
        x.mark(0, 1, 0);
        part("above 0", x, 0, 1, 2);
        part("below 0", x, 1, -1, 2);
        part("at 0", x, 2, 0, 1);
    }
}
