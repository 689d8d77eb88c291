/** Boundaries of promises 11 and 12, and of measures and read in part 2. */
public final class MeasureEdgesTest {
    private static final Edge EDGE = new Edge();
    private static final String P11 = "Promise 11";
    private static final String P12 = "Promise 12";
    private static final String MEASURES = "Terms 2, promise 11";
    private static final String READ = "Terms 2, promise 12";

    public static void main(String[] args) {
        days();
        numbers();
        ofNoStrip();
        atMostTwoHundred();
        aMeasureMore();
        readDays();
        readOfNoStrip();
        meanOfItsMeasures();
        ofThatDay();
        withoutAny();
        nearest();
        inProportion();
        meansInProportion();
        oneAlone();
        noneIfThereIsNone();
        aFraction();
        EDGE.end();
    }

    private static long measure(PitchSquare x, int strip, int day, int bounce) {
        return Edge.number(x.measure(strip, day, bounce));
    }

    private static void days() {
        EDGE.of("Terms 1, promise 11", "DAYS are 0 to 999");
        EDGE.ends(Leads::square, "measure(0, #, 5)", (x, day) -> measure(x, 0, day, 5), Edge.NO,
                0, 999);
    }

    private static void numbers() {
        EDGE.of(MEASURES, "a number (0 to 100)");
        EDGE.ends(Leads::square, "measure(0, 1, #)", (x, number) -> measure(x, 0, 1, number), Edge.NO,
                0, 100);
        for (int number : new int[] {0, 1, 99, 100}) {
            PitchSquare x = Edge.led(Leads.strips(1));
            x.measure(0, 7, number);
            EDGE.yes("reads(0, 7)", x.reads(0, 7));
            EDGE.fraction("a measure of " + number, x, number, 1);
        }
    }

    private static void ofNoStrip() {
        EDGE.of(P11, "(1; 2; 3)");
        EDGE.numbered(Leads::square, "measure(#, 0, 5)", (x, strip) -> measure(x, strip, 0, 5),
                Edge.NO, 3);
    }

    /** Measures of all strips and days together: so many of them. */
    private static Edge.Lead measured(int many) {
        return x -> {
            Leads.addStrips(x, 8);
            for (int i = 0; i < many; i++) {
                x.measure(i % 8, i % 3, i % 101);
            }
        };
    }

    private static void atMostTwoHundred() {
        EDGE.of(MEASURES, "MEASURES, at most 200");
        EDGE.taken(measured(198), "measure() the 199th", x -> measure(x, 0, 0, 1), Edge.NO);
        EDGE.taken(measured(199), "measure() the 200th", x -> measure(x, 7, 999, 1), Edge.NO);
        EDGE.refused(measured(200), "measure() the 201st", x -> measure(x, 0, 0, 1), Edge.NO, 3);
        EDGE.refused(measured(200), "measure() the 201st on another day",
                x -> measure(x, 7, 999, 1), Edge.NO, 3);
        EDGE.refused(measured(201), "measure() the 202nd", x -> measure(x, 0, 0, 1), Edge.NO, 3);
        // The 200th counts, the 201st does not.
        PitchSquare x = Edge.led(measured(199));
        x.measure(5, 999, 40);
        x.measure(5, 999, 60);
        EDGE.yes("reads(5, 999)", x.reads(5, 999));
        EDGE.fraction("the 200th and a refused one", x, 40, 1);
    }

    private static void aMeasureMore() {
        EDGE.of(P11, "A MEASURE more");
        // The same number twice is two measures; a day that is gone or is to come may be measured.
        PitchSquare x = Edge.led(Leads.strips(1));
        x.step();
        x.measure(0, 0, 30);
        x.measure(0, 0, 30);
        x.measure(0, 0, 60);
        EDGE.yes("reads(0, 0)", x.reads(0, 0));
        EDGE.fraction("30, 30 and 60", x, 40, 1);
        EDGE.yes("measure(0, 2, 9)", x.measure(0, 2, 9));
    }

    private static void readDays() {
        EDGE.of("Terms 1, promise 12", "DAYS are 0 to 999");
        for (int day : new int[] {Integer.MIN_VALUE, -1, 1000, Integer.MAX_VALUE}) {
            EDGE.refused(Leads::square, "reads(0, " + day + ")",
                    x -> Edge.number(x.reads(0, day)), Edge.NO, 2);
        }
        for (int day : new int[] {0, 1, 998, 999}) {
            EDGE.taken(Leads.both(Leads.strips(1), x -> x.measure(0, day, 9)),
                    "reads(0, " + day + ")", x -> Edge.number(x.reads(0, day)), Edge.NO);
            EDGE.refused(Leads.strips(1), "reads(0, " + day + ") of nothing",
                    x -> Edge.number(x.reads(0, day)), Edge.NO, 5);
        }
    }

    private static void readOfNoStrip() {
        EDGE.of(P12, "(1; 2; 5)");
        EDGE.numbered(Leads::square, "reads(#, 0)", (x, strip) -> Edge.number(x.reads(strip, 0)),
                Edge.NO, 3);
    }

    /** Strip, day, number, three by three. */
    private static PitchSquare with(int... measures) {
        PitchSquare x = Edge.led(Leads.strips(8));
        for (int i = 0; i + 2 < measures.length; i += 3) {
            x.measure(measures[i], measures[i + 1], measures[i + 2]);
        }
        return x;
    }

    private static void read(String what, PitchSquare x, int strip, int day, long upper, long lower) {
        EDGE.yes("reads(" + strip + ", " + day + ") " + what, x.reads(strip, day));
        EDGE.due("status()", x.status(), 0);
        EDGE.fraction("reads(" + strip + ", " + day + ") " + what, x, upper, lower);
    }

    private static void meanOfItsMeasures() {
        EDGE.of(READ, "the mean of its MEASURES of that DAY");
        read("of one", with(3, 5, 41), 3, 5, 41, 1);
        read("of two", with(3, 5, 41, 3, 5, 42), 3, 5, 83, 2);
        read("of three", with(3, 5, 10, 3, 5, 11, 3, 5, 11), 3, 5, 32, 3);
        read("beside others", with(2, 5, 0, 3, 5, 41, 4, 5, 100), 3, 5, 41, 1);
        read("of strip 0", with(0, 5, 41, 1, 5, 100), 0, 5, 41, 1);
        read("of strip 7", with(6, 5, 100, 7, 5, 41), 7, 5, 41, 1);
    }

    private static void ofThatDay() {
        EDGE.of(READ, "of that DAY");
        PitchSquare x = with(3, 4, 10, 3, 5, 20, 3, 6, 30);
        read("", x, 3, 4, 10, 1);
        read("", x, 3, 5, 20, 1);
        read("", x, 3, 6, 30, 1);
        // A neighbour's measures of the days beside it are none of that day.
        read("", with(2, 4, 90, 2, 6, 90, 1, 5, 20), 3, 5, 20, 1);
    }

    private static void withoutAny() {
        EDGE.of(READ, "without any");
        // A measure of 0 is one.
        read("of 0", with(2, 5, 100, 3, 5, 0, 4, 5, 100), 3, 5, 0, 1);
        read("without", with(2, 5, 100, 4, 5, 100), 3, 5, 100, 1);
        read("neighbours of 0", with(2, 5, 0, 4, 5, 0), 3, 5, 0, 1);
    }

    private static void nearest() {
        EDGE.of(READ, "the nearest STRIPS with some of that DAY on either side");
        read("left", with(0, 5, 10, 1, 5, 20), 2, 5, 20, 1);
        read("right", with(6, 5, 10, 5, 5, 20), 4, 5, 20, 1);
        read("both", with(0, 5, 99, 2, 5, 10, 4, 5, 20, 7, 5, 99), 3, 5, 15, 1);
        // What is read of a neighbour counts for nothing, only what was measured there.
        read("two gaps", with(0, 5, 0, 3, 5, 90), 2, 5, 60, 1);
        // Nearness is on either side: two strips on the left do not push out the one on the right.
        read("far right", with(2, 5, 10, 1, 5, 50, 7, 5, 60), 3, 5, 20, 1);
    }

    private static void inProportion() {
        EDGE.of(READ, "both in proportion by how far they are");
        PitchSquare x = with(0, 5, 0, 7, 5, 70);
        for (int strip = 0; strip < 8; strip++) {
            read("between 0 and 7", x, strip, 5, 10 * strip, 1);
        }
        PitchSquare y = with(0, 5, 70, 7, 5, 0);
        for (int strip = 0; strip < 8; strip++) {
            read("between 7 and 0", y, strip, 5, 70 - 10 * strip, 1);
        }
        read("beside the left one", with(1, 5, 10, 4, 5, 11), 2, 5, 31, 3);
        read("beside the right one", with(1, 5, 10, 4, 5, 11), 3, 5, 32, 3);
        read("in the middle", with(1, 5, 10, 3, 5, 11), 2, 5, 21, 2);
    }

    private static void meansInProportion() {
        EDGE.of(READ, "that of READ by measures of the nearest STRIPS");
        // The mean of 15 and 30, not of all three numbers.
        read("two and one", with(1, 5, 10, 1, 5, 20, 3, 5, 30), 2, 5, 45, 2);
        read("one and two", with(1, 5, 30, 3, 5, 10, 3, 5, 20), 2, 5, 45, 2);
        // 25 by 2 and 122 by 3, at a distance of 1 and 6.
        read("two and three", with(0, 5, 12, 0, 5, 13, 7, 5, 40, 7, 5, 41, 7, 5, 41), 1, 5, 347, 21);
    }

    private static void oneAlone() {
        EDGE.of(READ, "one alone as it is");
        for (int strip = 0; strip < 8; strip++) {
            read("from strip 0", with(0, 5, 12, 0, 5, 13), strip, 5, 25, 2);
            read("from strip 7", with(7, 5, 12, 7, 5, 13), strip, 5, 25, 2);
        }
    }

    private static void noneIfThereIsNone() {
        EDGE.of(READ, "none if there is none");
        Edge.Lead other = Leads.both(Leads.strips(8), x -> {
            x.measure(3, 1, 40);
            x.measure(3, 1, 41);
            x.reads(3, 1);
        });
        for (int strip = 0; strip < 8; strip++) {
            int one = strip;
            EDGE.refused(other, "reads(" + strip + ", 0)", x -> Edge.number(x.reads(one, 0)),
                    Edge.NO, 5);
            EDGE.refused(other, "reads(" + strip + ", 2)", x -> Edge.number(x.reads(one, 2)),
                    Edge.NO, 5);
            EDGE.taken(other, "reads(" + strip + ", 1)", x -> Edge.number(x.reads(one, 1)), Edge.NO);
        }
        PitchSquare x = Edge.led(other);
        x.reads(3, 2);
        EDGE.fraction("a refused reads", x, 81, 2);
    }

    /** 97 and 101 measures, at distances of 1 and 6: none of their numbers has a common divisor. */
    private static void aFraction() {
        EDGE.of("Terms 2, promises 12, 28, 29", "A FRACTION");
        PitchSquare x = Edge.led(Leads.strips(8));
        for (int i = 0; i < 97; i++) {
            x.measure(0, 5, i == 0 ? 99 : 100);
        }
        for (int i = 0; i < 101; i++) {
            x.measure(7, 5, i == 0 ? 98 : 100);
        }
        // (9699 by 97) by 6 by 7 and (10098 by 101) by 1 by 7.
        long upper = 9699L * 101 * 6 + 10098L * 97;
        read("of many", x, 1, 5, upper, 97L * 101 * 7);
        read("of many", x, 0, 5, 9699, 97);
        read("of many", x, 7, 5, 10098, 101);
    }
}
