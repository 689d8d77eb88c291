/** Boundaries of promises 1 to 5 and 10, of the strips in part 1, and of bounce in part 2. */
public final class StripEdgesTest {
    private static final Edge EDGE = new Edge();
    private static final String P1 = "Promise 1";
    private static final String P3 = "Promise 3";
    private static final String P4 = "Promise 4";
    private static final String P5 = "Promise 5";
    private static final String P10 = "Promise 10";
    private static final String BOUNCE = "Terms 2, promise 5";

    public static void main(String[] args) {
        newHasNoStrips();
        newHasNoMatches();
        newDayFractionStatus();
        newHasNothingElse();
        atMostEight();
        numberedAsTheyCome();
        strips();
        asTheyAreAtFirst();
        boundsOfAState();
        setIsReadBack();
        setSetsOneStrip();
        toldAsks();
        toldOfNoStrip();
        lessWear();
        lessFirstLayer();
        lessGrass();
        eachByItself();
        zeroAtLeast();
        whichDay();
        EDGE.end();
    }

    private static void newHasNoStrips() {
        EDGE.of(P1, "No STRIPS");
        for (int strip = 0; strip < 8; strip++) {
            int one = strip;
            EDGE.refused(Leads::nothing, "told(" + strip + ", 0)", x -> x.told(one, 0), Edge.NONE, 1);
        }
        EDGE.due("strip() the first", new PitchSquare().strip(), 0);
        PitchSquare x = Edge.led(Leads.strips(1));
        EDGE.due("told(0, 0) behind strip()", x.told(0, 0), 40);
    }

    private static void newHasNoMatches() {
        EDGE.of(P1, "no MATCHES");
        for (int match = 0; match < 8; match++) {
            int one = match;
            EDGE.refused(Leads::nothing, "given(" + match + ")", x -> x.given(one), Edge.NONE, 1);
        }
        EDGE.due("match() the first", new PitchSquare().match(0, 0), 0);
        EDGE.due("give() without any", new PitchSquare().give(), 0);
    }

    private static void newDayFractionStatus() {
        EDGE.of(P1, "day 0; the FRACTION 0 by 1; STATUS 0");
        EDGE.due("status()", new PitchSquare().status(), 0);
        EDGE.due("day()", new PitchSquare().day(), 0);
        EDGE.due("upper()", new PitchSquare().upper(), 0);
        EDGE.due("lower()", new PitchSquare().lower(), 1);
    }

    /** What promise 1 does not name is empty too, by the terms and by other promises. */
    private static void newHasNothingElse() {
        EDGE.of("Promises 12, 14, 16, 17, 18, 27", "ahead of any");
        EDGE.refused(Leads.strips(8), "reads(3, 0)", x -> Edge.number(x.reads(3, 0)), Edge.NO, 5);
        EDGE.refused(Leads::nothing, "planned(0)", x -> x.planned(0), Edge.NONE, 5);
        EDGE.refused(Leads::nothing, "rules(1)", x -> x.rules(1), Edge.NONE, 2);
        EDGE.due("fault(0)", new PitchSquare().fault(0), Edge.NONE);
        EDGE.due("fault(1)", new PitchSquare().fault(1), Edge.NONE);
        EDGE.refused(Leads.strips(1), "rate(0)", x -> x.rate(0), Edge.NONE, 5);
        EDGE.refused(Leads.matches(1), "fair(0)", x -> Edge.number(x.fair(0)), Edge.NO, 5);
    }

    private static void atMostEight() {
        EDGE.of("Terms 1, promise 3", "STRIPS, at most 8");
        EDGE.due("strip() the seventh", Edge.led(Leads.strips(6)).strip(), 6);
        EDGE.due("strip() the eighth", Edge.led(Leads.strips(7)).strip(), 7);
        EDGE.refused(Leads.strips(8), "strip() the ninth", PitchSquare::strip, Edge.NONE, 3);
        EDGE.refused(Leads.both(Leads.strips(8), PitchSquare::strip), "strip() the tenth",
                PitchSquare::strip, Edge.NONE, 3);
        EDGE.refused(Leads::full, "strip() of a full square", PitchSquare::strip, Edge.NONE, 3);
    }

    private static void numberedAsTheyCome() {
        EDGE.of("Terms 1, promise 3", "numbered as they come");
        PitchSquare x = new PitchSquare();
        for (int i = 0; i < 8; i++) {
            EDGE.due("strip()", x.strip(), i);
            EDGE.due("status()", x.status(), 0);
        }
    }

    private static void strips() {
        EDGE.of(P3, "A STRIP more: its number");
        PitchSquare x = Edge.led(Leads.strips(1));
        x.set(0, 1, 2, 3, 4, 5, 6);
        EDGE.due("strip()", x.strip(), 1);
        EDGE.state("strip()", x, 0, 1, 2, 3, 4, 5, 6);
        EDGE.state("strip()", x, 1, 40, 40, 40, 12, 30, 0);
        EDGE.due("told(2, 0)", x.told(2, 0), Edge.NONE);
    }

    private static void asTheyAreAtFirst() {
        EDGE.of("Terms 1, promise 3", "at first");
        PitchSquare x = Edge.led(Leads.strips(8));
        for (int strip = 0; strip < 8; strip++) {
            EDGE.state("strip()", x, strip, 40, 40, 40, 12, 30, 0, 30);
        }
        // A strip that comes on a later day has had no weather yet.
        PitchSquare y = Edge.led(Leads.strips(1));
        y.weather(0, 100, 0, true);
        y.step();
        y.strip();
        EDGE.state("strip() on day 1", y, 1, 40, 40, 40, 12, 30, 0, 30);
    }

    private static boolean setOne(PitchSquare x, int which, int number) {
        int[] a = {11, 12, 13, 14, 15, 16};
        a[which] = number;
        return x.set(1, a[0], a[1], a[2], a[3], a[4], a[5]);
    }

    private static final int[] MOST = {100, 100, 100, 60, 100, 100};
    private static final String[] NAMES = {"first", "second", "third", "GRASS", "HARD", "WEAR"};

    private static void boundsOfAState() {
        String layers = "WET, three layers (0 to 100 each; 40 at first)";
        String[] sentences = {layers, layers, layers, "GRASS (0 to 60 lines; 12 at first)",
            "HARD (0 to 100; 30 at first)", "WEAR (0 to 100; 0 at first)"};
        for (int which = 0; which < 6; which++) {
            EDGE.of("Terms 1, promise 4", sentences[which], NAMES[which]);
            int one = which;
            EDGE.ends(Leads::square, "set(1, ..) with # as " + NAMES[which],
                    (x, number) -> Edge.number(setOne(x, one, number)), Edge.NO, 0, MOST[which]);
        }
    }

    private static void setIsReadBack() {
        EDGE.of(P4, "A STRIP's state is set: three layers, GRASS, HARD, WEAR");
        for (int which = 0; which < 6; which++) {
            for (int number : new int[] {0, 1, MOST[which] - 1, MOST[which]}) {
                PitchSquare x = Edge.led(Leads::square);
                EDGE.yes("set with " + number, setOne(x, which, number));
                int[] want = {11, 12, 13, 14, 15, 16};
                want[which] = number;
                EDGE.state("set with " + number + " as " + NAMES[which], x, 1, want);
            }
        }
    }

    private static void setSetsOneStrip() {
        EDGE.of(P4, "(1; 2)");
        EDGE.numbered(Leads::square, "set(#, 1, 2, 3, 4, 5, 6)",
                (x, strip) -> Edge.number(x.set(strip, 1, 2, 3, 4, 5, 6)), Edge.NO, 3);
        PitchSquare x = Edge.led(Leads.strips(3));
        x.set(1, 1, 2, 3, 4, 5, 6);
        EDGE.state("set(1, ..)", x, 0, 40, 40, 40, 12, 30, 0);
        EDGE.state("set(1, ..)", x, 2, 40, 40, 40, 12, 30, 0);
    }

    private static void toldAsks() {
        EDGE.of(P5, "what 0, 1, 2: a layer, 3: GRASS, 4: HARD, 5: WEAR, 6: BOUNCE");
        EDGE.ends(Leads::square, "told(0, #)", (x, what) -> x.told(0, what), Edge.NONE, 0, 6);
        PitchSquare x = Edge.led(Leads.strips(1));
        x.set(0, 21, 22, 23, 24, 25, 26);
        // 25 less 26 by 4 less 14 by 4.
        EDGE.state("set", x, 0, 21, 22, 23, 24, 25, 26, 16);
    }

    private static void toldOfNoStrip() {
        EDGE.of(P5, "(1; 2)");
        EDGE.numbered(Leads::square, "told(#, 0)", (x, strip) -> x.told(strip, 0), Edge.NONE, 3);
        EDGE.numbered(Leads::full, "told(#, 6)", (x, strip) -> x.told(strip, 6), Edge.NONE, 8);
    }

    private static void bounce(int first, int grass, int hard, int wear, int want) {
        PitchSquare x = Edge.led(Leads.strips(1));
        x.set(0, first, 40, 40, grass, hard, wear);
        EDGE.due("first layer " + first + ", GRASS " + grass + ", HARD " + hard + ", WEAR " + wear,
                x.told(0, 6), want);
    }

    private static void lessWear() {
        EDGE.of(BOUNCE, "HARD, less WEAR by 4");
        bounce(50, 10, 100, 0, 100);
        bounce(50, 10, 100, 3, 100);
        bounce(50, 10, 100, 4, 99);
        bounce(50, 10, 100, 5, 99);
        bounce(50, 10, 100, 7, 99);
        bounce(50, 10, 100, 8, 98);
        bounce(50, 10, 100, 99, 76);
        bounce(50, 10, 100, 100, 75);
    }

    private static void lessFirstLayer() {
        EDGE.of(BOUNCE, "less (the first layer less 50) by 2 if it is above 50");
        bounce(0, 10, 70, 0, 70);
        bounce(48, 10, 70, 0, 70);
        bounce(49, 10, 70, 0, 70);
        bounce(50, 10, 70, 0, 70);
        bounce(51, 10, 70, 0, 70);
        bounce(52, 10, 70, 0, 69);
        bounce(53, 10, 70, 0, 69);
        bounce(54, 10, 70, 0, 68);
        bounce(99, 10, 70, 0, 46);
        bounce(100, 10, 70, 0, 45);
    }

    private static void lessGrass() {
        EDGE.of(BOUNCE, "less (GRASS less 10) by 4 if it is above 10");
        bounce(50, 0, 70, 0, 70);
        bounce(50, 6, 70, 0, 70);
        bounce(50, 9, 70, 0, 70);
        bounce(50, 10, 70, 0, 70);
        bounce(50, 11, 70, 0, 70);
        bounce(50, 13, 70, 0, 70);
        bounce(50, 14, 70, 0, 69);
        bounce(50, 15, 70, 0, 69);
        bounce(50, 17, 70, 0, 69);
        bounce(50, 18, 70, 0, 68);
        bounce(50, 57, 70, 0, 59);
        bounce(50, 58, 70, 0, 58);
        bounce(50, 60, 70, 0, 58);
    }

    private static void eachByItself() {
        EDGE.of(BOUNCE, "x by n: the quotient, rounded down");
        // The parts that are cut off are not added up.
        bounce(51, 13, 70, 3, 70);
        bounce(53, 17, 70, 7, 67);
        bounce(52, 14, 70, 4, 67);
    }

    private static void zeroAtLeast() {
        EDGE.of(BOUNCE, "0 at least");
        bounce(50, 10, 0, 0, 0);
        bounce(50, 10, 1, 0, 1);
        bounce(50, 10, 0, 4, 0);
        bounce(50, 10, 1, 4, 0);
        bounce(50, 10, 2, 4, 1);
        bounce(100, 60, 0, 100, 0);
        bounce(100, 60, 61, 100, 0);
        bounce(100, 60, 62, 100, 0);
        bounce(100, 60, 63, 100, 1);
    }

    private static void whichDay() {
        EDGE.of(P10, "Which DAY it is");
        PitchSquare x = new PitchSquare();
        EDGE.due("day()", x.day(), 0);
        x.told(0, 0);
        EDGE.due("day() behind a refused call", x.day(), 0);
        EDGE.due("status()", x.status(), 0);
        x.step();
        EDGE.due("day() behind step()", x.day(), 1);
        EDGE.due("day() again", x.day(), 1);
        x.step();
        EDGE.due("day() behind step()", x.day(), 2);
    }
}
