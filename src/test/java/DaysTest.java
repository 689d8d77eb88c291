/** Promises 6 to 10: weather, work, play, step, day. */
public final class DaysTest {
    private static final Check CHECK = new Check();

    public static void main(String[] args) {
        weatherRefused();
        weatherKept();
        workRefused();
        playRefused();
        wetOfADay();
        rolling();
        growing();
        mowingSeedingPlaying();
        worksEndWithTheDay();
        eachStripByItself();
        CHECK.end();
    }

    private static void weatherRefused() {
        PitchSquare x = new PitchSquare();
        x.step();
        x.step();
        CHECK.refused(x, "weather(-1, ..)", x.weather(-1, 0, 0, true), 2);
        CHECK.refused(x, "weather(1000, ..)", x.weather(1000, 0, 0, false), 2);
        CHECK.refused(x, "weather rain -1", x.weather(2, -1, 0, true), 2);
        CHECK.refused(x, "weather rain 101", x.weather(2, 101, 0, false), 2);
        CHECK.refused(x, "weather sun -1", x.weather(2, 0, -1, true), 2);
        CHECK.refused(x, "weather sun 21", x.weather(2, 0, 21, false), 2);
        CHECK.refused(x, "weather(1, ..)", x.weather(1, 0, 0, true), 4);
        CHECK.refused(x, "weather(1, ..) foretold", x.weather(1, 0, 0, false), 4);
        CHECK.refused(x, "weather(1, 101, ..)", x.weather(1, 101, 0, true), 2);
        CHECK.yes("weather(2, ..)", x.weather(2, 100, 20, true));
        CHECK.due("status()", x.status(), 0);
        CHECK.yes("weather(999, ..)", x.weather(999, 0, 0, false));
    }

    /** Foretold weather does not step a day; what came may be told ahead; the latest stays. */
    private static void weatherKept() {
        PitchSquare x = Check.withStrips(1);
        x.weather(0, 50, 9, false);
        x.weather(1, 90, 0, true);
        x.weather(1, 8, 3, true);
        x.weather(1, 101, 3, true);
        CHECK.due("step()", x.step(), 1);
        CHECK.state(x, 0, 39, 40, 36, 14, 30, 0, 29);
        CHECK.due("step()", x.step(), 2);
        CHECK.state(x, 0, 42, 40, 34, 16, 30, 0, 29);
    }

    private static void workRefused() {
        PitchSquare x = Check.withStrips(1);
        CHECK.refused(x, "work(1, 0)", x.work(1, 0), 1);
        CHECK.refused(x, "work(-1, 99)", x.work(-1, 99), 1);
        CHECK.refused(x, "work(0, 32)", x.work(0, 32), 2);
        CHECK.refused(x, "work(0, -1)", x.work(0, -1), 2);
        CHECK.yes("work(0, 31)", x.work(0, 31));
        CHECK.yes("work(0, 0)", x.work(0, 0));
        x.step();
        CHECK.state(x, 0, 39, 40, 36, 14, 30, 0);
    }

    private static void playRefused() {
        PitchSquare x = Check.withStrips(1);
        CHECK.refused(x, "play(1, 0)", x.play(1, 0), 1);
        CHECK.refused(x, "play(-1, -1)", x.play(-1, -1), 1);
        CHECK.refused(x, "play(0, -1)", x.play(0, -1), 2);
        CHECK.refused(x, "play(0, 1001)", x.play(0, 1001), 2);
        CHECK.refused(x, "play(0, MAX)", x.play(0, Integer.MAX_VALUE), 2);
        CHECK.yes("play(0, 400)", x.play(0, 400));
        CHECK.refused(x, "play(0, 601)", x.play(0, 601), 2);
        CHECK.refused(x, "play(0, MAX) behind 400", x.play(0, Integer.MAX_VALUE), 2);
        CHECK.yes("play(0, 600)", x.play(0, 600));
        CHECK.refused(x, "play(0, 1)", x.play(0, 1), 2);
        CHECK.yes("play(0, 0)", x.play(0, 0));
        x.step();
        CHECK.due("wear", x.told(0, 5), 25);
        CHECK.due("hard", x.told(0, 4), 25);
        CHECK.yes("play(0, 1000) on the next day", x.play(0, 1000));
    }

    private static PitchSquare stepped(int[] state, int rain, int sun, int works, int balls) {
        PitchSquare x = Check.withStrips(1);
        x.set(0, state[0], state[1], state[2], state[3], state[4], state[5]);
        x.weather(0, rain, sun, true);
        x.work(0, works);
        x.play(0, balls);
        x.step();
        return x;
    }

    private static int[] of(int... state) {
        return state;
    }

    private static void wetOfADay() {
        // Rain and water are cut at 100 ahead of the seep.
        CHECK.state(stepped(of(95, 0, 0, 0, 0, 0), 100, 0, 8, 0), 0, 75, 19, 6);
        CHECK.state(stepped(of(90, 0, 0, 0, 0, 0), 0, 0, 8, 0), 0, 74, 18, 6);
        // Covered: no rain, half the sun, rounded down.
        CHECK.state(stepped(of(40, 40, 40, 0, 0, 0), 100, 7, 1, 0), 0, 37, 40, 36);
        // Covered and watered.
        CHECK.state(stepped(of(40, 40, 40, 0, 0, 0), 100, 7, 9, 0), 0, 43, 42, 36);
        // No seep upwards; the third layer loses a tenth, rounded down.
        CHECK.state(stepped(of(0, 50, 99, 0, 0, 0), 0, 0, 0, 0), 0, 0, 50, 90);
        CHECK.state(stepped(of(0, 0, 9, 0, 0, 0), 0, 0, 0, 0), 0, 0, 0, 9);
        // Grass by 12 beside the sun, and by 20 from the second; nothing below 0.
        CHECK.state(stepped(of(30, 30, 30, 60, 0, 0), 0, 20, 0, 0), 0, 5, 27, 27);
        CHECK.state(stepped(of(24, 24, 24, 23, 0, 0), 0, 20, 0, 0), 0, 3, 23, 22);
        CHECK.state(stepped(of(24, 24, 24, 39, 0, 0), 0, 0, 0, 0), 0, 21, 23, 22);
        CHECK.state(stepped(of(24, 24, 24, 40, 0, 0), 0, 0, 0, 0), 0, 21, 22, 22);
        CHECK.state(stepped(of(10, 2, 0, 60, 0, 0), 0, 20, 0, 0), 0, 0, 0, 1);
    }

    private static int hardBehind(int first, int second, int hard, int works) {
        // The third layer is high, so the second keeps what it has but for the first's seep.
        return stepped(of(first, second, 100, 0, hard, 0), 0, 0, works, 0).told(0, 4);
    }

    private static void rolling() {
        CHECK.due("rolled at 24", hardBehind(24, 50, 50, 2), 50);
        CHECK.due("rolled at 25", hardBehind(25, 50, 50, 2), 57);
        CHECK.due("rolled at 60", hardBehind(60, 60, 50, 2), 57);
        CHECK.due("rolled at 61", hardBehind(61, 61, 50, 2), 44);
        CHECK.due("rolled at 61, covered", hardBehind(61, 61, 50, 3), 44);
        CHECK.due("rolled at 70", hardBehind(70, 70, 50, 2), 44);
        CHECK.due("rolled at 71", hardBehind(71, 71, 50, 2), 43);
        CHECK.due("not rolled at 70", hardBehind(70, 70, 50, 0), 50);
        CHECK.due("not rolled at 71", hardBehind(71, 71, 50, 0), 49);
        CHECK.due("rolled with the second at 70", hardBehind(50, 70, 50, 2), 57);
        CHECK.due("rolled with the second at 71", hardBehind(50, 71, 50, 2), 50);
        CHECK.due("rolled at 60, the second at 71", hardBehind(60, 71, 50, 2), 50);
        CHECK.due("rolled at 61, the second at 71", hardBehind(61, 71, 50, 2), 44);
        CHECK.due("rolled at 99", hardBehind(50, 50, 99, 2), 100);
        CHECK.due("rolled at 100", hardBehind(50, 50, 100, 2), 100);
        CHECK.due("rolled wet at 4", hardBehind(90, 90, 4, 2), 0);
        CHECK.due("wet at 0", hardBehind(90, 90, 0, 0), 0);
    }

    private static int grassBehind(int second, int grass, int wear, int works) {
        return stepped(of(0, second, 100, grass, 0, wear), 0, 0, works, 0).told(0, 3);
    }

    private static void growing() {
        CHECK.due("grass at 9", grassBehind(9, 10, 0, 0), 9);
        CHECK.due("grass at 10", grassBehind(10, 10, 0, 0), 11);
        CHECK.due("grass at 19", grassBehind(19, 10, 0, 0), 11);
        CHECK.due("grass at 20", grassBehind(20, 10, 0, 0), 12);
        CHECK.due("grass at 80", grassBehind(80, 10, 0, 0), 12);
        CHECK.due("grass at 81", grassBehind(81, 10, 0, 0), 11);
        CHECK.due("grass at 90", grassBehind(90, 10, 0, 0), 11);
        CHECK.due("grass at 91", grassBehind(91, 10, 0, 0), 9);
        CHECK.due("no grass at 91", grassBehind(91, 0, 0, 0), 0);
        CHECK.due("grass of 59", grassBehind(50, 59, 0, 0), 60);
        CHECK.due("grass with wear 50", grassBehind(50, 10, 50, 0), 12);
        CHECK.due("grass with wear 51", grassBehind(50, 10, 51, 0), 10);
        CHECK.due("grass with wear 51 at 91", grassBehind(91, 10, 51, 0), 10);
    }

    private static void mowingSeedingPlaying() {
        CHECK.due("mown 5", grassBehind(50, 3, 0, 4), 5);
        CHECK.due("mown 7", grassBehind(50, 5, 0, 4), 6);
        CHECK.due("mown with wear 51", grassBehind(50, 30, 51, 4), 6);
        CHECK.state(stepped(of(0, 50, 100, 10, 50, 10), 0, 0, 16, 0), 0, 0, 50, 90, 12, 50, 7);
        CHECK.state(stepped(of(0, 50, 100, 10, 50, 2), 0, 0, 16, 0), 0, 0, 50, 90, 12, 50, 0);
        CHECK.state(stepped(of(0, 50, 100, 10, 50, 10), 0, 0, 16, 1), 0, 0, 50, 90, 12, 50, 10);
        CHECK.state(stepped(of(0, 50, 100, 10, 50, 10), 0, 0, 15, 0), 0, 8, 50, 90, 6, 50, 10);
        CHECK.state(stepped(of(0, 50, 100, 10, 50, 10), 0, 0, 0, 199), 0, 0, 50, 90, 12, 50, 14);
        CHECK.state(stepped(of(0, 50, 100, 10, 50, 10), 0, 0, 0, 200), 0, 0, 50, 90, 12, 49, 15);
        CHECK.state(stepped(of(0, 50, 100, 10, 2, 90), 0, 0, 0, 1000), 0, 0, 50, 90, 10, 0, 100);
        // Growth asks for the wear ahead of seeds and play.
        CHECK.state(stepped(of(0, 50, 100, 10, 50, 53), 0, 0, 16, 0), 0, 0, 50, 90, 10, 50, 50);
        CHECK.state(stepped(of(0, 50, 100, 10, 50, 50), 0, 0, 0, 400), 0, 0, 50, 90, 12, 48, 60);
    }

    private static void worksEndWithTheDay() {
        PitchSquare x = Check.withStrips(1);
        x.set(0, 40, 40, 40, 0, 50, 0);
        x.work(0, 4);
        x.work(0, 2);
        x.play(0, 400);
        x.set(0, 40, 40, 40, 20, 50, 0);
        x.step();
        CHECK.state(x, 0, 39, 39, 36, 22, 55, 10);
        x.step();
        CHECK.state(x, 0, 38, 38, 33, 24, 55, 10);
    }

    private static void eachStripByItself() {
        PitchSquare x = Check.withStrips(3);
        x.weather(0, 8, 3, true);
        x.work(1, 3);
        x.play(2, 200);
        x.step();
        CHECK.state(x, 0, 42, 42, 36, 14, 30, 0);
        CHECK.state(x, 1, 38, 40, 36, 14, 39, 0);
        CHECK.state(x, 2, 42, 42, 36, 14, 29, 5);
    }
}
