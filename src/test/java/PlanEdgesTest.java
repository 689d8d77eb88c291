import java.util.Arrays;

/** Boundaries of promises 13 and 14, and of the plan of works in part 2. */
public final class PlanEdgesTest {
    private static final Edge EDGE = new Edge();
    private static final String PLAN = "Terms 2, promise 13";
    private static final String P13 = "Promise 13";
    private static final String P14 = "Promise 14";

    public static void main(String[] args) {
        numberOfDays();
        numberOfCovers();
        numberOfRolls();
        ofNoStrip();
        daysOfThePlan();
        weatherOfItsDays();
        foretoldNotCame();
        oneOfFour();
        coversTogether();
        rollsTogether();
        greatestBounceFirst();
        thenFewestWorks();
        threeCountsAsTwo();
        thenFirstByNumbers();
        stripAsItIs();
        changesNothing();
        noneYet();
        noSuchDay();
        foundLatest();
        EDGE.end();
    }

    private static void numberOfDays() {
        EDGE.of(PLAN, "over the next n DAYS (1 to 6)");
        EDGE.ends(Leads::square, "plan(0, #, 1, 1)", (x, n) -> x.plan(0, n, 1, 1), Edge.NONE, 1, 6);
    }

    private static void numberOfCovers() {
        EDGE.of(P13, "so many COVERED and ROLLED at most (0 to 6 each)", "covers");
        EDGE.ends(Leads::square, "plan(0, 2, #, 1)", (x, covers) -> x.plan(0, 2, covers, 1),
                Edge.NONE, 0, 6);
    }

    private static void numberOfRolls() {
        EDGE.of(P13, "so many COVERED and ROLLED at most (0 to 6 each)", "rolls");
        EDGE.ends(Leads::square, "plan(0, 2, 1, #)", (x, rolls) -> x.plan(0, 2, 1, rolls),
                Edge.NONE, 0, 6);
    }

    private static void ofNoStrip() {
        EDGE.of(P13, "(1; 2; 6", "1");
        EDGE.numbered(Leads::square, "plan(#, 1, 1, 1)", (x, strip) -> x.plan(strip, 1, 1, 1),
                Edge.NONE, 3);
    }

    /** A strip that can be rolled at once; its first layer does not seep away. */
    private static PitchSquare dry(int hard) {
        PitchSquare x = Edge.led(Leads.strips(1));
        x.set(0, 40, 60, 100, 0, hard, 0);
        return x;
    }

    private static void planned(String what, PitchSquare x, int... want) {
        for (int k = 0; k < want.length; k++) {
            EDGE.due("planned(" + k + ") " + what, x.planned(k), want[k]);
            EDGE.due("status() " + what, x.status(), 0);
        }
        EDGE.due("planned(" + want.length + ") " + what, x.planned(want.length), Edge.NONE);
        EDGE.due("status() " + what, x.status(), 5);
    }

    /** Of HARD 0 every roll gains, and grass stays below 11 for five days. */
    private static void daysOfThePlan() {
        EDGE.of(P13, "BOUNCE behind BEST PLAN over n DAYS from today on");
        // HARD is 0, 13, 24, 34, 43, 51 and 58; the grass of 12 behind six days takes nothing.
        int[] hards = {13, 24, 34, 43, 51, 58};
        for (int n = 1; n <= 6; n++) {
            PitchSquare x = dry(0);
            EDGE.due("plan(0, " + n + ", 6, 6)", x.plan(0, n, 6, 6), hards[n - 1]);
            int[] all = new int[n];
            Arrays.fill(all, 2);
            planned("of " + n, x, all);
        }
    }

    /** Rain on a day of the plan or just beside it; the second layer has more and takes none of it. */
    private static void rainOn(int today, int day, int n, int want) {
        PitchSquare x = Edge.led(Leads.strips(1));
        x.weather(day, 60, 0, false);
        Check.goTo(x, today);
        x.set(0, 0, 100, 100, 0, 50, 0);
        EDGE.due("plan of " + n + " from day " + today + " with rain on day " + day,
                x.plan(0, n, 0, 0), want);
    }

    private static void weatherOfItsDays() {
        EDGE.of(PLAN, "by WEATHER FORETOLD: on each DAY");
        for (int n = 1; n <= 6; n++) {
            rainOn(3, 2, n, 50);
            rainOn(3, 3, n, 45);
            rainOn(3, 3 + n - 1, n, 45);
            rainOn(3, 3 + n, n, 50);
        }
        PitchSquare x = dry(50);
        x.set(0, 62, 60, 100, 0, 50, 0);
        x.weather(1, 0, 2, false);
        EDGE.due("sun of the day behind", x.plan(0, 1, 0, 0), 44);
        x.weather(0, 0, 1, false);
        EDGE.due("sun 1 of the day", x.plan(0, 1, 0, 0), 45);
        x.weather(0, 0, 20, false);
        EDGE.due("sun 20 of the day", x.plan(0, 1, 0, 0), 50);
    }

    private static void foretoldNotCame() {
        EDGE.of(PLAN, "by WEATHER FORETOLD");
        PitchSquare x = dry(50);
        x.weather(0, 100, 0, true);
        EDGE.due("plan with rain that came", x.plan(0, 1, 0, 0), 50);
        x.weather(0, 10, 0, false);
        // 50 over 60.
        EDGE.due("plan with rain foretold", x.plan(0, 1, 0, 0), 50);
        x.weather(0, 12, 0, false);
        EDGE.due("plan with more rain foretold", x.plan(0, 1, 0, 0), 49);
    }

    /** Rain of 30 on a first layer of 40: 65 behind the seep if it is not covered. */
    private static void oneOfFour() {
        EDGE.of(PLAN, "one of 0 nothing, 1 COVERED, 2 ROLLED, 3 COVERED and ROLLED");
        PitchSquare x = dry(50);
        x.weather(0, 30, 0, false);
        EDGE.due("no covers, no rolls", x.plan(0, 1, 0, 0), 41);
        planned("no covers, no rolls", x, 0);
        EDGE.due("a cover", x.plan(0, 1, 1, 0), 50);
        planned("a cover", x, 1);
        EDGE.due("a roll", x.plan(0, 1, 0, 1), 41);
        planned("a roll", x, 0);
        EDGE.due("both", x.plan(0, 1, 1, 1), 57);
        planned("both", x, 3);
        x.weather(0, 0, 0, false);
        EDGE.due("a roll when it is dry", x.plan(0, 1, 1, 1), 57);
        planned("a roll when it is dry", x, 2);
    }

    /** Three days of rain on a full second layer: covers alone keep the first one at 0. */
    private static void coversTogether() {
        EDGE.of(PLAN, "at most so many of 1 and 3 together");
        PitchSquare x = Edge.led(Leads.strips(1));
        x.set(0, 0, 100, 100, 0, 90, 0);
        for (int day = 0; day < 3; day++) {
            x.weather(day, 52, 0, false);
        }
        // 100 at the end, on two days of it: 25 and 2. Then 100, on one day; then 52; then 0.
        EDGE.due("no cover", x.plan(0, 3, 0, 6), 63);
        planned("no cover", x, 0, 0, 0);
        EDGE.due("one cover", x.plan(0, 3, 1, 0), 64);
        planned("one cover", x, 0, 1, 0);
        EDGE.due("two covers", x.plan(0, 3, 2, 0), 89);
        planned("two covers", x, 0, 1, 1);
        EDGE.due("three covers", x.plan(0, 3, 3, 0), 90);
        planned("three covers", x, 1, 1, 1);
        EDGE.due("four covers", x.plan(0, 3, 4, 0), 90);
        planned("four covers", x, 1, 1, 1);
        // Rolling takes its own number beside: with 3 on two days both are used up.
        PitchSquare y = dry(50);
        y.weather(0, 30, 0, false);
        y.weather(1, 30, 0, false);
        EDGE.due("two covers, two rolls", y.plan(0, 2, 2, 2), 63);
        planned("two covers, two rolls", y, 3, 3);
        EDGE.due("two covers, one roll", y.plan(0, 2, 2, 1), 57);
        planned("two covers, one roll", y, 1, 3);
    }

    private static void rollsTogether() {
        EDGE.of(PLAN, "and of 2 and 3 together");
        int[] hards = {50, 57, 63, 68, 68};
        int[][] works = {{0, 0, 0}, {0, 0, 2}, {0, 2, 2}, {2, 2, 2}, {2, 2, 2}};
        for (int rolls = 0; rolls <= 4; rolls++) {
            PitchSquare x = dry(50);
            EDGE.due("plan(0, 3, 0, " + rolls + ")", x.plan(0, 3, 0, rolls), hards[rolls]);
            planned("rolls " + rolls, x, works[rolls]);
        }
        // Day 0 is rolled under its cover, where it stays at 30: 63, and day 1's rain takes 5. With
        // one roll it is left to dry to 20, and day 1 is rolled at 50.
        PitchSquare y = dry(50);
        y.weather(1, 30, 0, false);
        y.weather(0, 0, 20, false);
        EDGE.due("plan(0, 2, 1, 1)", y.plan(0, 2, 1, 1), 57);
        planned("a roll and a cover", y, 0, 2);
        EDGE.due("plan(0, 2, 1, 2)", y.plan(0, 2, 1, 2), 58);
        planned("two rolls and a cover", y, 3, 2);
        EDGE.due("plan(0, 2, 0, 2)", y.plan(0, 2, 0, 2), 57);
        planned("two rolls and no cover", y, 0, 2);
    }

    private static void greatestBounceFirst() {
        EDGE.of(PLAN, "BEST: with the greatest BOUNCE behind all DAYS");
        // Each of two rolls gains 1 only, and both are done for it.
        PitchSquare x = dry(98);
        EDGE.due("plan(0, 2, 2, 2)", x.plan(0, 2, 2, 2), 100);
        planned("HARD 98", x, 2, 2);
        PitchSquare y = dry(99);
        EDGE.due("plan(0, 2, 2, 2)", y.plan(0, 2, 2, 2), 100);
        planned("HARD 99", y, 0, 2);
    }

    private static void thenFewestWorks() {
        EDGE.of(PLAN, "then with the fewest WORKS");
        PitchSquare x = dry(100);
        EDGE.due("nothing gains", x.plan(0, 3, 6, 6), 100);
        planned("nothing gains", x, 0, 0, 0);
        // Wet through: bounce is 0 whatever is done.
        PitchSquare y = Edge.led(Leads.strips(1));
        y.set(0, 100, 100, 100, 60, 0, 100);
        EDGE.due("all is lost", y.plan(0, 3, 6, 6), 0);
        planned("all is lost", y, 0, 0, 0);
    }

    private static void threeCountsAsTwo() {
        EDGE.of(PLAN, "3 counts as two");
        // Sun dries day 1 below 25 unless it is covered: 2, 0 and 0, 3 come to the same. As one
        // work, 0, 3 would be the first by numbers.
        PitchSquare x = dry(50);
        x.weather(1, 0, 20, false);
        EDGE.due("plan(0, 2, 1, 1)", x.plan(0, 2, 1, 1), 57);
        planned("against one", x, 2, 0);
        // Rain on both days, one of which must be covered: 0, 3 and 1, 2 come to the same. As three
        // works, 0, 3 would be behind 1, 2.
        PitchSquare y = Edge.led(Leads.strips(1));
        y.set(0, 30, 70, 100, 0, 50, 0);
        y.weather(0, 20, 0, false);
        y.weather(1, 20, 0, false);
        EDGE.due("plan(0, 2, 1, 1)", y.plan(0, 2, 1, 1), 57);
        planned("against two", y, 0, 3);
    }

    private static void thenFirstByNumbers() {
        EDGE.of(PLAN, "then the first by numbers, DAY by DAY");
        PitchSquare x = dry(50);
        EDGE.due("plan(0, 6, 0, 1)", x.plan(0, 6, 0, 1), 57);
        planned("one roll on any of six days", x, 0, 0, 0, 0, 0, 2);
        // Uncovered, the first layer is 54 and can be rolled from 90 to 92; covered, it is 20.
        PitchSquare y = Edge.led(Leads.strips(1));
        y.set(0, 20, 60, 100, 0, 90, 0);
        y.weather(0, 34, 0, false);
        EDGE.due("plan(0, 1, 0, 0)", y.plan(0, 1, 0, 0), 88);
        EDGE.due("plan(0, 1, 1, 1)", y.plan(0, 1, 1, 1), 90);
        planned("1 and 2 come to the same", y, 1);
        EDGE.due("plan(0, 1, 0, 1)", y.plan(0, 1, 0, 1), 90);
        planned("no covers", y, 2);
    }

    /** Works and balls that are told for today are not done in a plan. */
    private static void stripAsItIs() {
        EDGE.of(PLAN, "nothing else is done on these DAYS, nothing PLAYED");
        PitchSquare x = dry(50);
        x.work(0, 2 + 8);
        x.play(0, 1000);
        EDGE.due("plan(0, 1, 0, 0)", x.plan(0, 1, 0, 0), 50);
        EDGE.due("plan(0, 1, 0, 1)", x.plan(0, 1, 0, 1), 57);
        PitchSquare y = Edge.led(Leads.strips(2));
        y.set(0, 40, 60, 100, 0, 50, 0);
        y.set(1, 40, 60, 100, 0, 60, 0);
        EDGE.due("plan of strip 0", y.plan(0, 1, 0, 0), 50);
        EDGE.due("plan of strip 1", y.plan(1, 1, 0, 0), 60);
    }

    /** Behind a plan all else is as in a twin without it; only planned() is another. */
    private static void changesNothing() {
        EDGE.of(PLAN, "it changes nothing");
        Edge.Lead planned = Leads.both(Leads::square, x -> x.plan(0, 6, 6, 6));
        for (Probe probe : Probe.values()) {
            if (probe != Probe.PLANNED) {
                EDGE.same("plan(0, 6, 6, 6)", planned, Leads::square, probe);
            }
        }
    }

    private static void noneYet() {
        EDGE.of(P14, "5: there was none yet");
        int[] all = {Integer.MIN_VALUE, -1, 0, 1, 5, 6, Integer.MAX_VALUE};
        for (int k : all) {
            EDGE.refused(Leads.strips(1), "planned(" + k + ")", x -> x.planned(k), Edge.NONE, 5);
            // A refused plan is none.
            EDGE.refused(Leads.both(Leads.strips(1), x -> x.plan(0, 7, 0, 0)),
                    "planned(" + k + ") behind a refused plan", x -> x.planned(k), Edge.NONE, 5);
        }
    }

    private static void noSuchDay() {
        EDGE.of(P14, "or it has no such DAY");
        for (int n = 1; n <= 6; n++) {
            int days = n;
            Edge.Lead planned = Leads.both(Leads::square, x -> x.plan(0, days, 1, 1));
            for (int k : new int[] {Integer.MIN_VALUE, -1, n, n + 1, Integer.MAX_VALUE}) {
                EDGE.refused(planned, "planned(" + k + ") of " + n, x -> x.planned(k), Edge.NONE, 5);
            }
            EDGE.taken(planned, "planned(0) of " + n, x -> x.planned(0), Edge.NONE);
            EDGE.taken(planned, "the last of " + n, x -> x.planned(days - 1), Edge.NONE);
        }
    }

    private static void foundLatest() {
        EDGE.of(P14, "What is done on DAY k of the PLAN found latest");
        PitchSquare x = dry(50);
        x.plan(0, 3, 0, 3);
        planned("the first", x, 2, 2, 2);
        x.plan(0, 2, 0, 1);
        planned("a shorter one", x, 0, 2);
        x.plan(1, 1, 0, 0);
        x.plan(0, 0, 0, 0);
        x.plan(0, 1, -1, 0);
        planned("refused ones behind it", x, 0, 2);
        x.step();
        x.set(0, 0, 0, 0, 0, 0, 0);
        planned("a day and another state behind it", x, 0, 2);
        x.plan(0, 4, 0, 0);
        planned("a longer one", x, 0, 0, 0, 0);
    }
}
