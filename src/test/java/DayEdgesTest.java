/** Boundaries of promises 6 to 9: what is told of a day, and stepping on. */
public final class DayEdgesTest {
    private static final Edge EDGE = new Edge();
    private static final String P6 = "Promise 6";
    private static final String P7 = "Promise 7";
    private static final String P8 = "Promise 8";
    private static final String P9 = "Promise 9";

    public static void main(String[] args) {
        days();
        rain();
        sun();
        dayAheadOfToday();
        latestTelling();
        nothingTold();
        foretoldApartFromCame();
        cameOnItsDayAlone();
        works();
        eachOrNot();
        inPlaceOfThoseAhead();
        workOfNoStrip();
        balls();
        besideThoseAhead();
        ballsOfEachStrip();
        refusedBallsDoNotCount();
        playOfNoStrip();
        newDay();
        nothingToldForTheNewDay();
        allStrips();
        EDGE.end();
    }

    private static long told(PitchSquare x, int day, int rain, int sun, boolean came) {
        return Edge.number(x.weather(day, rain, sun, came));
    }

    private static void days() {
        EDGE.of("Terms 1, promise 6", "DAYS are 0 to 999");
        for (boolean came : new boolean[] {false, true}) {
            EDGE.ends(Leads.strips(1), "weather(#, 5, 5, " + came + ")",
                    (x, day) -> told(x, day, 5, 5, came), Edge.NO, 0, 999);
        }
    }

    private static void rain() {
        EDGE.of("Terms 1, promise 6", "RAIN (0 to 100)");
        for (boolean came : new boolean[] {false, true}) {
            EDGE.ends(Leads::square, "weather(1, #, 5, " + came + ")",
                    (x, rain) -> told(x, 1, rain, 5, came), Edge.NO, 0, 100);
        }
    }

    private static void sun() {
        EDGE.of("Terms 1, promise 6", "SUN (0 to 20)");
        for (boolean came : new boolean[] {false, true}) {
            EDGE.ends(Leads::square, "weather(1, 5, #, " + came + ")",
                    (x, sun) -> told(x, 1, 5, sun, came), Edge.NO, 0, 20);
        }
    }

    private static void dayAheadOfToday() {
        EDGE.of(P6, "4: a DAY ahead of today");
        for (boolean came : new boolean[] {false, true}) {
            Edge.Lead dayTwo = Leads.both(Leads::square, PitchSquare::step);
            EDGE.refused(dayTwo, "weather(0, ..)", x -> told(x, 0, 5, 5, came), Edge.NO, 4);
            EDGE.refused(dayTwo, "weather(1, ..)", x -> told(x, 1, 5, 5, came), Edge.NO, 4);
            EDGE.taken(dayTwo, "weather(2, ..)", x -> told(x, 2, 5, 5, came), Edge.NO);
            EDGE.taken(dayTwo, "weather(3, ..)", x -> told(x, 3, 5, 5, came), Edge.NO);
            EDGE.taken(dayTwo, "weather(999, ..)", x -> told(x, 999, 5, 5, came), Edge.NO);
            EDGE.taken(Leads::nothing, "weather(0, ..)", x -> told(x, 0, 5, 5, came), Edge.NO);
        }
    }

    /** Strip 0 has no grass and its second layer is full, so the first shows rain less sun. */
    private static void bare(PitchSquare x) {
        x.strip();
        x.set(0, 40, 100, 100, 0, 50, 0);
    }

    private static int firstBehindStep(PitchSquare x) {
        x.step();
        return x.told(0, 0);
    }

    private static final String RAINS = "a when rain=0;b when rain=7;c when rain=9;";

    private static void latestTelling() {
        EDGE.of("Terms 1, promise 6", "as FORETOLD (the latest telling)");
        PitchSquare x = Edge.led(DayEdgesTest::bare);
        Texts.read(x, RAINS);
        EDGE.due("rate(0) with nothing told", x.rate(0), 0);
        x.weather(0, 7, 0, false);
        EDGE.due("rate(0) with 7 told", x.rate(0), 1);
        x.weather(0, 9, 0, false);
        EDGE.due("rate(0) with 9 told then", x.rate(0), 2);
        x.weather(0, 0, 0, false);
        EDGE.due("rate(0) with 0 told then", x.rate(0), 0);
        PitchSquare y = Edge.led(DayEdgesTest::bare);
        y.weather(0, 30, 3, true);
        y.weather(0, 10, 5, true);
        EDGE.due("told(0, 0) with what came told twice", firstBehindStep(y), 45);
    }

    private static void nothingTold() {
        EDGE.of("Terms 1, promise 6", "0 and 0 if nothing is told");
        EDGE.due("told(0, 0)", firstBehindStep(Edge.led(DayEdgesTest::bare)), 40);
        PitchSquare x = Edge.led(DayEdgesTest::bare);
        EDGE.due("plan(0, 1, 0, 0)", x.plan(0, 1, 0, 0), 50);
    }

    private static void foretoldApartFromCame() {
        EDGE.of(P6, "WEATHER of a DAY is FORETOLD, or told as it CAME");
        PitchSquare x = Edge.led(DayEdgesTest::bare);
        Texts.read(x, RAINS);
        x.weather(0, 7, 1, true);
        EDGE.due("rate(0) with what came", x.rate(0), 0);
        x.weather(0, 9, 20, false);
        EDGE.due("rate(0) with what is foretold", x.rate(0), 2);
        EDGE.due("told(0, 0) by what came", firstBehindStep(x), 46);
        PitchSquare y = Edge.led(DayEdgesTest::bare);
        y.weather(0, 60, 20, false);
        EDGE.due("told(0, 0) with nothing that came", firstBehindStep(y), 40);
    }

    private static void cameOnItsDayAlone() {
        EDGE.of(P9, "by WEATHER as it CAME");
        PitchSquare x = Edge.led(DayEdgesTest::bare);
        x.weather(1, 11, 4, true);
        EDGE.due("told(0, 0) the day ahead", firstBehindStep(x), 40);
        x.set(0, 40, 100, 100, 0, 50, 0);
        EDGE.due("told(0, 0) on its day", firstBehindStep(x), 47);
        x.set(0, 40, 100, 100, 0, 50, 0);
        EDGE.due("told(0, 0) the day behind", firstBehindStep(x), 40);
    }

    private static void works() {
        EDGE.of(P7, "as a sum: 1 COVERED, 2 ROLLED, 4 MOWN, 8 WATERED, 16 SEEDED");
        EDGE.ends(Leads::square, "work(0, #)",
                (x, works) -> Edge.number(x.work(0, works)), Edge.NO, 0, 31);
    }

    /**
     * Rain 20 and sun 9 on layers of 40, grass 20, hard 50, wear 10. Covered: 40, then 4 and 1 lost.
     * Watered: 68, of which 7 and then 1 seep. Both: 48, of which 2 seep.
     */
    private static void eachOrNot() {
        EDGE.of("Terms 1, promise 7", "COVERED, ROLLED, MOWN, WATERED, SEEDED, or none of these");
        int[][] layers = {{45, 43, 37}, {35, 39, 36}, {51, 45, 37}, {41, 41, 36}};
        for (int works = 0; works < 32; works++) {
            PitchSquare x = Edge.led(Leads.strips(1));
            x.set(0, 40, 40, 40, 20, 50, 10);
            x.weather(0, 20, 9, true);
            x.work(0, works);
            x.step();
            int[] wet = layers[(works & 1) + (works & 8) / 4];
            EDGE.state("works " + works, x, 0, wet[0], wet[1], wet[2],
                    (works & 4) != 0 ? 6 : 22, (works & 2) != 0 ? 57 : 50, (works & 16) != 0 ? 7 : 10);
        }
    }

    private static void inPlaceOfThoseAhead() {
        EDGE.of(P7, "in place of those told ahead");
        PitchSquare x = Edge.led(Leads.strips(2));
        x.set(0, 40, 40, 40, 20, 50, 10);
        x.set(1, 40, 40, 40, 20, 50, 10);
        x.work(1, 4);
        x.work(0, 2);
        x.work(0, 16);
        x.step();
        EDGE.state("works 2, then 16", x, 0, 39, 39, 36, 22, 50, 7);
        EDGE.state("the other strip's works stay", x, 1, 39, 39, 36, 6, 50, 10);
        PitchSquare y = Edge.led(Leads.strips(1));
        y.set(0, 40, 40, 40, 20, 50, 10);
        y.work(0, 31);
        y.work(0, 0);
        y.step();
        EDGE.state("works 31, then 0", y, 0, 39, 39, 36, 22, 50, 10);
    }

    private static void workOfNoStrip() {
        EDGE.of(P7, "(1; 2)");
        EDGE.numbered(Leads::square, "work(#, 1)",
                (x, strip) -> Edge.number(x.work(strip, 1)), Edge.NO, 3);
    }

    private static long play(PitchSquare x, int balls) {
        return Edge.number(x.play(0, balls));
    }

    private static void balls() {
        EDGE.of("Terms 1, promise 8", "BALLS (0 to 1,000)");
        EDGE.ends(Leads.strips(1), "play(0, #)", DayEdgesTest::play, Edge.NO, 0, 1000);
    }

    private static void besideThoseAhead() {
        EDGE.of(P8, "beside those told ahead, 1,000 in all at most");
        // 400 are told in this square.
        EDGE.ends(Leads::square, "play(0, #) behind 400", DayEdgesTest::play, Edge.NO, 0, 600);
        Edge.Lead thousand = Leads.both(Leads::square, x -> x.play(0, 600));
        EDGE.refused(thousand, "play(0, -1) behind 1,000", x -> play(x, -1), Edge.NO, 2);
        EDGE.taken(thousand, "play(0, 0) behind 1,000", x -> play(x, 0), Edge.NO);
        EDGE.refused(thousand, "play(0, 1) behind 1,000", x -> play(x, 1), Edge.NO, 2);
        EDGE.refused(thousand, "play(0, 1000) behind 1,000", x -> play(x, 1000), Edge.NO, 2);
        // Neither 20 nor 20 wears by itself.
        PitchSquare x = Edge.led(Leads.strips(1));
        x.play(0, 20);
        x.play(0, 20);
        x.step();
        EDGE.due("wear behind 20 and 20", x.told(0, 5), 1);
        PitchSquare y = Edge.led(Leads.strips(1));
        y.play(0, 20);
        y.play(0, 19);
        y.step();
        EDGE.due("wear behind 20 and 19", y.told(0, 5), 0);
    }

    private static void ballsOfEachStrip() {
        EDGE.of(P8, "BALLS are PLAYED on a STRIP today");
        PitchSquare x = Edge.led(Leads.strips(2));
        EDGE.yes("play(0, 1000)", x.play(0, 1000));
        EDGE.yes("play(1, 1000)", x.play(1, 1000));
        x.step();
        EDGE.due("wear of strip 0", x.told(0, 5), 25);
        EDGE.due("wear of strip 1", x.told(1, 5), 25);
        EDGE.yes("play(0, 1000) on the next day", x.play(0, 1000));
    }

    private static void refusedBallsDoNotCount() {
        EDGE.of(P8, "2: more than that");
        PitchSquare x = Edge.led(Leads.strips(1));
        x.play(0, 999);
        EDGE.due("play(0, 2) behind 999", play(x, 2), 0);
        EDGE.due("play(0, MAX) behind 999", play(x, Integer.MAX_VALUE), 0);
        EDGE.due("play(0, 1) behind 999", play(x, 1), 1);
        x.step();
        EDGE.due("wear behind 1,000", x.told(0, 5), 25);
        // A refused ball is no ball: the seeds still take.
        PitchSquare y = Edge.led(Leads.strips(1));
        y.set(0, 40, 40, 40, 0, 50, 10);
        y.work(0, 16);
        y.play(0, 1001);
        y.step();
        EDGE.due("wear, seeded behind a refused play", y.told(0, 5), 7);
    }

    private static void playOfNoStrip() {
        EDGE.of(P8, "(1; 2)");
        EDGE.numbered(Leads::square, "play(#, 1)",
                (x, strip) -> Edge.number(x.play(strip, 1)), Edge.NO, 3);
    }

    private static void newDay() {
        EDGE.of(P9, "by WEATHER as it CAME: the new DAY");
        PitchSquare x = new PitchSquare();
        for (int day = 1; day <= 250; day++) {
            EDGE.due("step() without strips", x.step(), day);
            EDGE.due("day()", x.day(), day);
        }
    }

    private static void nothingToldForTheNewDay() {
        EDGE.of(P9, "no WORKS, no BALLS are told for it");
        PitchSquare x = Edge.led(Leads.strips(1));
        x.set(0, 40, 40, 40, 20, 50, 10);
        x.work(0, 15);
        x.play(0, 1000);
        x.step();
        x.set(0, 40, 40, 40, 20, 50, 10);
        x.step();
        EDGE.state("two steps", x, 0, 39, 39, 36, 22, 50, 10);
        // Balls of yesterday do not keep the seeds from taking.
        PitchSquare y = Edge.led(Leads.strips(1));
        y.play(0, 1);
        y.step();
        y.set(0, 40, 40, 40, 20, 50, 10);
        y.work(0, 16);
        y.step();
        EDGE.due("wear, seeded the day behind a ball", y.told(0, 5), 7);
    }

    private static void allStrips() {
        EDGE.of("Terms 1, promise 9", "A DAY is stepped for each STRIP by itself");
        PitchSquare x = Edge.led(Leads.strips(8));
        for (int strip = 0; strip < 8; strip++) {
            // Every other strip is soaked and played on; it must not reach those beside it.
            boolean soaked = strip % 2 == 0;
            x.set(strip, soaked ? 100 : 40, soaked ? 100 : 40, soaked ? 100 : 40, 0, 50, 0);
            x.play(strip, soaked ? 1000 : 0);
        }
        x.step();
        for (int strip = 0; strip < 8; strip++) {
            if (strip % 2 == 0) {
                EDGE.state("step()", x, strip, 100, 100, 90, 0, 44, 25);
            } else {
                EDGE.state("step()", x, strip, 40, 40, 36, 2, 50, 0);
            }
        }
    }
}
