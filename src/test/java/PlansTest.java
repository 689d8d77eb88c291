/** Promises 13 and 14: plan, planned. */
public final class PlansTest {
    private static final Check CHECK = new Check();

    public static void main(String[] args) {
        refusals();
        fewestThenFirst();
        limits();
        oneCover();
        sunForetold();
        changesNothing();
        latestPlanStays();
        CHECK.end();
    }

    private static void refusals() {
        PitchSquare x = Check.withStrips(1);
        CHECK.refused(x, "plan(1, 0, ..)", x.plan(1, 0, 0, 0), 1);
        CHECK.refused(x, "plan(-1, ..)", x.plan(-1, 1, 0, 0), 1);
        CHECK.refused(x, "plan n 0", x.plan(0, 0, 0, 0), 2);
        CHECK.refused(x, "plan n 7", x.plan(0, 7, 0, 0), 2);
        CHECK.refused(x, "plan covers -1", x.plan(0, 1, -1, 0), 2);
        CHECK.refused(x, "plan covers 7", x.plan(0, 1, 7, 0), 2);
        CHECK.refused(x, "plan rolls -1", x.plan(0, 1, 0, -1), 2);
        CHECK.refused(x, "plan rolls 7", x.plan(0, 1, 0, 7), 2);
        CHECK.refused(x, "planned(0)", x.planned(0), 5);
        CHECK.due("plan(0, 6, 6, 6)", x.plan(0, 6, 6, 6), 68);
        CHECK.refused(x, "planned(6)", x.planned(6), 5);
        CHECK.refused(x, "planned(-1)", x.planned(-1), 5);
        CHECK.refused(x, "planned(MAX)", x.planned(Integer.MAX_VALUE), 5);
    }

    private static void plannedAre(PitchSquare x, int... want) {
        for (int k = 0; k < want.length; k++) {
            CHECK.due("planned(" + k + ")", x.planned(k), want[k]);
        }
        CHECK.refused(x, "planned(" + want.length + ")", x.planned(want.length), 5);
    }

    private static void fewestThenFirst() {
        PitchSquare x = Check.withStrips(1);
        // One roll at any of the three days does the same here: the latest day is the first by
        // numbers, for nothing comes ahead of rolling.
        x.set(0, 40, 40, 40, 0, 93, 0);
        CHECK.due("plan(0, 3, 3, 1)", x.plan(0, 3, 3, 1), 94);
        plannedAre(x, 0, 0, 2);
        // Rain of the middle day makes it too wet: covered there alone, rolled when it is dry.
        x.set(0, 40, 40, 40, 0, 50, 0);
        x.weather(1, 100, 0, false);
        CHECK.due("plan(0, 3, 1, 3)", x.plan(0, 3, 1, 3), 68);
        plannedAre(x, 2, 3, 2);
        CHECK.due("plan(0, 3, 1, 0)", x.plan(0, 3, 1, 0), 50);
        plannedAre(x, 0, 1, 0);
    }

    private static void limits() {
        PitchSquare x = Check.withStrips(1);
        x.set(0, 40, 40, 40, 0, 50, 0);
        for (int day = 0; day < 4; day++) {
            x.weather(day, 100, 0, false);
        }
        CHECK.due("plan(0, 2, 2, 2)", x.plan(0, 2, 2, 2), 63);
        plannedAre(x, 3, 3);
        CHECK.due("plan(0, 2, 2, 1)", x.plan(0, 2, 2, 1), 57);
        plannedAre(x, 1, 3);
        CHECK.due("plan(0, 2, 0, 0)", x.plan(0, 2, 0, 0), 29);
        plannedAre(x, 0, 0);
        CHECK.due("plan(0, 1, 0, 6)", x.plan(0, 1, 0, 6), 32);
        plannedAre(x, 0);
    }

    /** One cover for three wet days: the last of them gains most by it. */
    private static void oneCover() {
        PitchSquare x = Check.withStrips(1);
        x.set(0, 40, 40, 40, 0, 50, 0);
        for (int day = 0; day < 3; day++) {
            x.weather(day, 100, 0, false);
        }
        // Bounce is 29 if day 0 is covered, 28 with day 1, 32 with day 2.
        CHECK.due("plan(0, 3, 1, 0)", x.plan(0, 3, 1, 0), 32);
        plannedAre(x, 0, 0, 1);
    }

    /** The sun of each day is its own. */
    private static void sunForetold() {
        PitchSquare x = Check.withStrips(1);
        x.step();
        x.set(0, 90, 60, 100, 0, 60, 0);
        x.weather(1, 0, 20, false);
        x.weather(2, 0, 10, false);
        // 90 is 83 behind the seep and 63 dry, then 53: rolled on the second day alone.
        CHECK.due("plan(0, 2, 0, 2)", x.plan(0, 2, 0, 2), 65);
        plannedAre(x, 0, 2);
    }

    /** Works and balls told for today have no part in it, and stay told. */
    private static void changesNothing() {
        PitchSquare x = Check.withStrips(1);
        x.set(0, 40, 40, 40, 0, 50, 0);
        x.work(0, 8 + 4);
        x.play(0, 1000);
        x.weather(0, 100, 20, true);
        CHECK.due("plan(0, 1, 1, 0)", x.plan(0, 1, 1, 0), 50);
        CHECK.state(x, 0, 40, 40, 40, 0, 50, 0, 50);
        CHECK.due("day()", x.day(), 0);
        x.step();
        CHECK.state(x, 0, 65, 52, 39, 2, 45, 25);
    }

    private static void latestPlanStays() {
        PitchSquare x = Check.withStrips(2);
        x.set(0, 40, 40, 40, 0, 50, 0);
        x.plan(0, 2, 0, 2);
        plannedAre(x, 2, 2);
        x.plan(0, 7, 0, 0);
        x.plan(2, 1, 0, 0);
        x.step();
        plannedAre(x, 2, 2);
        x.plan(1, 1, 0, 0);
        plannedAre(x, 0);
    }
}
