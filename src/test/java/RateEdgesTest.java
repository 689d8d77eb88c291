/** Boundaries of promises 18 and 19, and of how a strip is rated in part 4. */
public final class RateEdgesTest {
    private static final Edge EDGE = new Edge();
    private static final String RATED = "Terms 4, promise 18";
    private static final String P18 = "Promise 18";
    private static final String P19 = "Promise 19";
    private static final String[] WHATS =
        {"first", "second", "third", "grass", "hard", "wear", "bounce", "rain"};

    public static void main(String[] args) {
        compares();
        comparesAtTheBounds();
        rainOfTheDay();
        allTests();
        firstRule();
        asItIsToday();
        none();
        rateOfNoStrip();
        soMany();
        whichRule();
        whenOfNoStrip();
        ofSoMany();
        fromTodayOn();
        onNone();
        steppedByForetold();
        withoutWorksAndBalls();
        ratedByAnother();
        changesNothing();
        EDGE.end();
    }

    private static void holds(PitchSquare x, String test, boolean want) {
        Texts.read(x, "a when " + test + ";");
        EDGE.due("rate(0) by " + test, x.rate(0), want ? 0 : Edge.NONE);
        EDGE.due("status() by " + test, x.status(), want ? 0 : 5);
    }

    /** The numbers just beside the value and at it, by all three signs. */
    private static void around(PitchSquare x, String what, int value) {
        for (int number = Math.max(0, value - 1); number <= value + 1; number++) {
            holds(x, what + "<" + number, value < number);
            holds(x, what + ">" + number, value > number);
            holds(x, what + "=" + number, value == number);
        }
    }

    private static void compares() {
        EDGE.of(RATED, "TEST: WHAT COMPARES NUMBER");
        // Bounce is 45 less 26 by 4 less 14 by 4.
        int[] values = {21, 22, 23, 24, 45, 26, 36, 27};
        for (int i = 0; i < WHATS.length; i++) {
            PitchSquare x = Edge.led(Leads.strips(1));
            x.set(0, 21, 22, 23, 24, 45, 26);
            x.weather(0, 27, 20, false);
            around(x, WHATS[i], values[i]);
        }
    }

    private static void comparesAtTheBounds() {
        EDGE.of(RATED, "TEST: WHAT COMPARES NUMBER", "with what is least and most");
        int[] most = {100, 100, 100, 60, 100, 100, 38, 100};
        for (int i = 0; i < WHATS.length; i++) {
            PitchSquare x = Edge.led(Leads.strips(1));
            x.set(0, 0, 0, 0, 0, 0, 0);
            around(x, WHATS[i], 0);
            x.set(0, 100, 100, 100, 60, 100, 100);
            x.weather(0, 100, 0, false);
            around(x, WHATS[i], most[i]);
        }
    }

    private static void rainOfTheDay() {
        EDGE.of(RATED, "rain: of WEATHER FORETOLD for the DAY");
        PitchSquare x = Edge.led(Leads.strips(1));
        x.weather(1, 7, 0, false);
        x.weather(1, 9, 0, true);
        Texts.read(x, "a when rain=7;b when rain=9;c when rain=0;");
        EDGE.due("rate(0) the day ahead", x.rate(0), 2);
        x.step();
        EDGE.due("rate(0) on the day", x.rate(0), 0);
        x.step();
        EDGE.due("rate(0) the day behind", x.rate(0), 2);
    }

    /** Six tests, of which none or one does not hold. */
    private static void allTests() {
        EDGE.of(RATED, "of which all TESTS hold");
        for (int wrong = -1; wrong < 6; wrong++) {
            StringBuilder text = new StringBuilder("a when ");
            for (int i = 0; i < 6; i++) {
                text.append(i == 0 ? "" : " and ").append(WHATS[i]).append("=");
                text.append(i == wrong ? 51 : 50);
            }
            PitchSquare x = Edge.led(Leads.strips(1));
            x.set(0, 50, 50, 50, 50, 50, 50);
            EDGE.due("rules", Texts.read(x, text + ";"), 1);
            EDGE.due("rate(0) by [" + text + "]", x.rate(0), wrong == -1 ? 0 : Edge.NONE);
        }
        // Tests of a text ahead of this one are forgotten.
        PitchSquare x = Edge.led(Leads.strips(1));
        Texts.read(x, "a when hard=30 and wear=99;");
        Texts.read(x, "a when hard=30 and wear=99;");
        EDGE.due("rate(0) by two", x.rate(0), Edge.NONE);
        Texts.read(x, "a when hard=30;");
        Texts.read(x, "a when hard=30;");
        EDGE.due("rate(0) by one", x.rate(0), 0);
    }

    private static void firstRule() {
        EDGE.of(RATED, "RATED is a STRIP by the first RULE");
        for (int first = 0; first <= 8; first++) {
            StringBuilder text = new StringBuilder();
            for (int i = 0; i < 8; i++) {
                text.append((char) ('a' + i)).append(" when hard=").append(i < first ? 31 : 30);
                text.append(";");
            }
            PitchSquare x = Edge.led(Leads.strips(1));
            EDGE.due("rules", Texts.read(x, text.toString()), 8);
            EDGE.due("rate(0) from rule " + first + " on", x.rate(0), first == 8 ? Edge.NONE : first);
            EDGE.due("status()", x.status(), first == 8 ? 5 : 0);
        }
    }

    private static void asItIsToday() {
        EDGE.of(P18, "by which a STRIP is RATED as it is today");
        PitchSquare x = Edge.led(Leads.strips(2));
        Texts.read(x, "a when grass=12;b when grass=14;c when grass=6;");
        x.work(0, 4);
        EDGE.due("rate(0) ahead of the step", x.rate(0), 0);
        x.step();
        EDGE.due("rate(0) behind it", x.rate(0), 2);
        EDGE.due("rate(1) behind it", x.rate(1), 1);
    }

    private static void none() {
        EDGE.of(P18, "5: none");
        EDGE.refused(Leads.strips(1), "rate(0) without rules", x -> x.rate(0), Edge.NONE, 5);
        Edge.Lead beside = Leads.both(Leads::square, x -> {
            x.rules(0);
            Texts.read(x, "a when wear<0;b when first>100;");
        });
        EDGE.refused(beside, "rate(0) by rules that never hold", x -> x.rate(0), Edge.NONE, 5);
        EDGE.refused(Leads.both(Leads::square, x -> x.rules(0)), "rate(0) behind rules(0)",
                x -> x.rate(0), Edge.NONE, 5);
    }

    private static void rateOfNoStrip() {
        EDGE.of(P18, "(1; 5: none)", "1");
        EDGE.numbered(Leads::square, "rate(#)", (x, strip) -> x.rate(strip), Edge.NONE, 3);
    }

    private static void soMany() {
        EDGE.of(P19, "of so many (1 to 60)");
        EDGE.ends(Leads::square, "when(2, 2, #)", (x, many) -> x.when(2, 2, many), Edge.NONE, 1, 60);
    }

    /** Each of three rules has its day, and there is no fourth. */
    private static void threeRules(PitchSquare x) {
        Leads.addStrips(x, 3);
        x.weather(1, 7, 0, false);
        x.weather(2, 9, 0, false);
        Texts.read(x, "a when rain=0;b when rain=7;c when rain=9;");
    }

    private static void whichRule() {
        EDGE.of(P19, "2: RULE");
        EDGE.ends(RateEdgesTest::threeRules, "when(0, #, 3)", (x, rule) -> x.when(0, rule, 3),
                Edge.NONE, 0, 2);
        for (int rule : new int[] {-1, 0, 1}) {
            EDGE.refused(Leads.strips(1), "when(0, " + rule + ", 1) without rules",
                    x -> x.when(0, rule, 1), Edge.NONE, 2);
        }
        Edge.Lead eight = Leads.both(Leads.strips(1), x -> Texts.read(x, Texts.EIGHT_RULES));
        EDGE.taken(eight, "when(0, 0, 1)", x -> x.when(0, 0, 1), Edge.NONE);
        EDGE.refused(eight, "when(0, 7, 1) of eight", x -> x.when(0, 7, 1), Edge.NONE, 5);
        EDGE.refused(eight, "when(0, 8, 1) of eight", x -> x.when(0, 8, 1), Edge.NONE, 2);
        // A text with a fault, or fewer rules than ahead of it, leaves none that was only there.
        Edge.Lead fewer = Leads.both(eight, x -> Texts.read(x, "a when rain=0;b when rain=0;"));
        EDGE.refused(fewer, "when(0, 1, 1) of two", x -> x.when(0, 1, 1), Edge.NONE, 5);
        EDGE.refused(fewer, "when(0, 2, 1) of two", x -> x.when(0, 2, 1), Edge.NONE, 2);
        Edge.Lead faulty = Leads.both(fewer, x -> Texts.read(x, Texts.EIGHT_RULES + "i"));
        EDGE.refused(faulty, "when(0, 2, 1) behind a fault", x -> x.when(0, 2, 1), Edge.NONE, 2);
    }

    private static void whenOfNoStrip() {
        EDGE.of(P19, "(1; 2: RULE, so many", "1");
        EDGE.numbered(RateEdgesTest::threeRules, "when(#, 0, 1)", (x, strip) -> x.when(strip, 0, 1),
                Edge.NONE, 3);
    }

    private static PitchSquare rainOn(int today, int day) {
        PitchSquare x = Edge.led(Leads.strips(1));
        x.weather(day, 7, 0, false);
        Texts.read(x, "a when rain=7;");
        Check.goTo(x, today);
        return x;
    }

    private static void when(PitchSquare x, int many, int want) {
        EDGE.due("when(0, 0, " + many + ") on day " + x.day(), x.when(0, 0, many), want);
        EDGE.due("status()", x.status(), want == PitchSquare.NONE ? 5 : 0);
    }

    private static void ofSoMany() {
        EDGE.of(P19, "The first DAY from today on, of so many");
        for (int many : new int[] {1, 2, 30, 59, 60}) {
            when(rainOn(2, 2), many, 2);
            when(rainOn(2, 2 + many - 1), many, 2 + many - 1);
            when(rainOn(2, 2 + many), many, PitchSquare.NONE);
        }
        PitchSquare x = rainOn(2, 5);
        when(x, 3, PitchSquare.NONE);
        when(x, 4, 5);
        when(x, 5, 5);
    }

    private static void fromTodayOn() {
        EDGE.of(P19, "The first DAY from today on");
        // A day that is gone is none of them.
        when(rainOn(3, 2), 60, PitchSquare.NONE);
        when(rainOn(3, 3), 60, 3);
        when(rainOn(3, 4), 60, 4);
        PitchSquare x = rainOn(0, 4);
        x.weather(6, 7, 0, false);
        when(x, 60, 4);
        x.weather(4, 6, 0, false);
        when(x, 60, 6);
    }

    private static void onNone() {
        EDGE.of(P19, "5: on none");
        Edge.Lead never = Leads.both(Leads::square, x -> {
            x.rules(0);
            Texts.read(x, "a when wear>100;b when grass>60;");
        });
        for (int many : new int[] {1, 2, 59, 60}) {
            EDGE.refused(never, "when(0, 0, " + many + ")", x -> x.when(0, 0, many), Edge.NONE, 5);
            EDGE.refused(never, "when(0, 1, " + many + ")", x -> x.when(0, 1, many), Edge.NONE, 5);
        }
    }

    /** The first layer loses 10 a day by the sun foretold: 40, 30, 20, 10. */
    private static void steppedByForetold() {
        EDGE.of(P19, "a STRIP that is stepped by WEATHER FORETOLD");
        PitchSquare x = Edge.led(Leads.strips(2));
        x.set(0, 40, 60, 100, 0, 50, 0);
        for (int day = 0; day < 4; day++) {
            x.weather(day, 0, 10, false);
            x.weather(day, 100, 0, true);
        }
        Texts.read(x, "a when first<30;b when first=30;c when first=40;");
        EDGE.due("when(0, 2, 4)", x.when(0, 2, 4), 0);
        EDGE.due("when(0, 1, 4)", x.when(0, 1, 4), 1);
        EDGE.due("when(0, 0, 4)", x.when(0, 0, 4), 2);
        EDGE.due("when(0, 0, 2)", x.when(0, 0, 2), Edge.NONE);
        // Rain of a day shows in the layer only on the next one, in the rule on the day itself.
        PitchSquare y = Edge.led(Leads.strips(1));
        y.set(0, 0, 100, 100, 0, 50, 0);
        y.weather(3, 60, 0, false);
        Texts.read(y, "a when first=60;b when rain=60;");
        EDGE.due("when(0, 0, 10)", y.when(0, 0, 10), 4);
        EDGE.due("when(0, 1, 10)", y.when(0, 1, 10), 3);
    }

    private static void withoutWorksAndBalls() {
        EDGE.of(P19, "without WORKS and BALLS");
        PitchSquare x = Edge.led(Leads.strips(1));
        x.set(0, 40, 60, 100, 0, 50, 0);
        x.work(0, 31);
        x.play(0, 1000);
        Texts.read(x, "a when wear>0;b when hard>50;c when first>40;d when grass=4;");
        EDGE.due("when(0, 0, 60): no ball wears", x.when(0, 0, 60), Edge.NONE);
        EDGE.due("when(0, 1, 60): nothing is rolled", x.when(0, 1, 60), Edge.NONE);
        EDGE.due("when(0, 2, 1): nothing is watered", x.when(0, 2, 2), Edge.NONE);
        EDGE.due("when(0, 3, 60): nothing is mown", x.when(0, 3, 60), 2);
    }

    private static void ratedByAnother() {
        EDGE.of(P19, "is RATED by a RULE");
        // Rule 1 holds every day, but by it the strip is rated only where rule 0 does not hold.
        PitchSquare x = Edge.led(Leads.strips(1));
        x.weather(2, 7, 0, false);
        Texts.read(x, "a when rain=0;b when wear=0;");
        EDGE.due("when(0, 1, 60)", x.when(0, 1, 60), 2);
        EDGE.due("when(0, 1, 2)", x.when(0, 1, 2), Edge.NONE);
        EDGE.due("when(0, 0, 60)", x.when(0, 0, 60), 0);
    }

    private static void changesNothing() {
        EDGE.of("Promises 18, 19", "Nothing is promised beyond the answers and state changes described");
        EDGE.same("rate(0)", Leads.both(Leads::square, x -> x.rate(0)), Leads::square, Probe.values());
        EDGE.same("when(2, 2, 60)", Leads.both(Leads::square, x -> x.when(2, 2, 60)), Leads::square,
                Probe.values());
    }
}
