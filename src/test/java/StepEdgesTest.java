/** Boundaries of part 1, 'A DAY is stepped', which promise 9 rests on (13 and 19 too). */
public final class StepEdgesTest {
    private static final Edge EDGE = new Edge();
    private static final String STEP = "Terms 1, promise 9";
    private static final String CUT = "each number cut to its bounds as it is made";
    private static final int COVERED = 1;
    private static final int ROLLED = 2;
    private static final int MOWN = 4;
    private static final int WATERED = 8;
    private static final int SEEDED = 16;

    public static void main(String[] args) {
        covered();
        growsByRain();
        growsByWater();
        cutAheadOfTheSeep();
        seepToTheSecond();
        seepToTheThird();
        seepInOrder();
        thirdLoses();
        firstLosesSun();
        firstLosesGrass();
        bothTogether();
        firstNotBelowZero();
        secondLosesGrass();
        rolledFirstLayer();
        rolledSecondLayer();
        rolledBehindTheSun();
        hardGrows();
        hardFallsBySix();
        hardFallsByOne();
        grassByWear();
        grassBySecond();
        grassBehindTheSeep();
        grassIsCut();
        mown();
        seeded();
        seededNotPlayed();
        wearGrows();
        wearIsCut();
        hardFallsByBalls();
        hardIsCutAsItIsMade();
        inThisOrder();
        EDGE.end();
    }

    private static int[] of(int... state) {
        return state;
    }

    /** One day of a strip that has this state: rain, sun, works, balls. */
    private static PitchSquare day(int[] state, int rain, int sun, int works, int balls) {
        PitchSquare x = Edge.led(Leads.strips(1));
        x.set(0, state[0], state[1], state[2], state[3], state[4], state[5]);
        x.weather(0, rain, sun, true);
        x.work(0, works);
        x.play(0, balls);
        x.step();
        return x;
    }

    /** The first layer, with a full second one that takes nothing of it. */
    private static void first(int first, int rain, int sun, int grass, int works, int want) {
        EDGE.due("first layer of " + first + " with rain " + rain + ", sun " + sun + ", grass " + grass
                + ", works " + works,
                day(of(first, 100, 100, grass, 50, 0), rain, sun, works, 0).told(0, 0), want);
    }

    private static void covered() {
        EDGE.of(STEP, "COVERED: RAIN 0 and SUN by 2");
        first(40, 0, 0, 0, COVERED, 40);
        first(40, 1, 0, 0, COVERED, 40);
        first(40, 100, 0, 0, COVERED, 40);
        first(40, 1, 0, 0, 0, 41);
        first(40, 0, 1, 0, COVERED, 40);
        first(40, 0, 2, 0, COVERED, 39);
        first(40, 0, 3, 0, COVERED, 39);
        first(40, 0, 19, 0, COVERED, 31);
        first(40, 0, 20, 0, COVERED, 30);
        first(40, 0, 2, 0, 0, 38);
        first(40, 100, 20, 0, COVERED + WATERED, 38);
    }

    private static void growsByRain() {
        EDGE.of(STEP, "The first layer grows by RAIN");
        first(40, 0, 0, 0, 0, 40);
        first(40, 1, 0, 0, 0, 41);
        first(40, 59, 0, 0, 0, 99);
        first(40, 60, 0, 0, 0, 100);
        first(40, 61, 0, 0, 0, 100);
        first(40, 100, 0, 0, 0, 100);
        first(0, 99, 0, 0, 0, 99);
        first(0, 100, 0, 0, 0, 100);
        first(1, 100, 0, 0, 0, 100);
    }

    private static void growsByWater() {
        EDGE.of(STEP, "and by 8 if WATERED");
        first(40, 0, 0, 0, WATERED, 48);
        first(91, 0, 0, 0, WATERED, 99);
        first(92, 0, 0, 0, WATERED, 100);
        first(93, 0, 0, 0, WATERED, 100);
        first(90, 1, 0, 0, WATERED, 99);
        first(90, 2, 0, 0, WATERED, 100);
        first(90, 3, 0, 0, WATERED, 100);
        first(40, 0, 0, 0, ROLLED + MOWN + SEEDED, 40);
    }

    /** The first and the second layer behind the seep; the third is full and takes nothing. */
    private static void seep(int first, int second, int rain, int wantFirst, int wantSecond) {
        PitchSquare x = day(of(first, second, 100, 0, 50, 0), rain, 0, 0, 0);
        EDGE.state(first + " over " + second + " with rain " + rain, x, 0, wantFirst, wantSecond, 90);
    }

    private static void cutAheadOfTheSeep() {
        EDGE.of(STEP, CUT, "the first layer ahead of the seep");
        seep(95, 0, 4, 75, 24);
        seep(95, 0, 5, 75, 25);
        seep(95, 0, 6, 75, 25);
        seep(95, 0, 9, 75, 25);
        seep(95, 0, 100, 75, 25);
        // The sun takes from what was cut, not from what came down.
        first(95, 100, 10, 0, 0, 90);
    }

    private static void seepToTheSecond() {
        EDGE.of(STEP, "if the first layer has more than the second, the difference by 4 goes from it");
        seep(42, 50, 0, 42, 50);
        seep(46, 50, 0, 46, 50);
        seep(49, 50, 0, 49, 50);
        seep(50, 50, 0, 50, 50);
        seep(51, 50, 0, 51, 50);
        seep(53, 50, 0, 53, 50);
        seep(54, 50, 0, 53, 51);
        seep(55, 50, 0, 54, 51);
        seep(57, 50, 0, 56, 51);
        seep(58, 50, 0, 56, 52);
        seep(100, 0, 0, 75, 25);
        seep(0, 100, 0, 0, 100);
    }

    private static void lower(int second, int third, int wantSecond, int wantThird) {
        PitchSquare x = day(of(0, second, third, 0, 50, 0), 0, 0, 0, 0);
        EDGE.state(second + " over " + third, x, 0, 0, wantSecond, wantThird);
    }

    /** The third layer is told less a tenth. */
    private static void seepToTheThird() {
        EDGE.of(STEP, "then likewise from the second to the third");
        lower(46, 50, 46, 45);
        lower(49, 50, 49, 45);
        lower(50, 50, 50, 45);
        lower(51, 50, 51, 45);
        lower(53, 50, 53, 45);
        lower(54, 50, 53, 46);
        lower(55, 50, 54, 46);
        lower(57, 50, 56, 46);
        lower(58, 50, 56, 47);
        lower(100, 0, 75, 23);
        lower(0, 100, 0, 90);
    }

    private static void seepInOrder() {
        EDGE.of(STEP, "then likewise from the second to the third; the third loses itself by 10");
        // What the second gets from the first counts for the third: 51 over 47, not 50.
        EDGE.state("54, 50, 47", day(of(54, 50, 47, 0, 50, 0), 0, 0, 0, 0), 0, 53, 50, 44);
        EDGE.state("53, 50, 47", day(of(53, 50, 47, 0, 50, 0), 0, 0, 0, 0), 0, 53, 50, 43);
        // The first is compared with the second ahead of its own loss: 50 over 50.
        EDGE.state("50, 50, 10", day(of(50, 50, 10, 0, 50, 0), 0, 0, 0, 0), 0, 50, 40, 18);
        // The third loses of what it has got: 18 by 10, not 8 by 10.
        EDGE.state("0, 50, 8", day(of(0, 50, 8, 0, 50, 0), 0, 0, 0, 0), 0, 0, 40, 17);
        // The sun takes from the first layer behind the seep: 20 over 0 gives 5.
        EDGE.state("20, 0, 0", day(of(20, 0, 100, 0, 50, 0), 0, 15, 0, 0), 0, 0, 5, 90);
    }

    private static void thirdLoses() {
        EDGE.of(STEP, "the third loses itself by 10");
        int[][] thirds = {{0, 0}, {1, 1}, {9, 9}, {10, 9}, {11, 10}, {19, 18}, {20, 18}, {21, 19},
            {99, 90}, {100, 90}};
        for (int[] third : thirds) {
            lower(0, third[0], 0, third[1]);
        }
    }

    private static void firstLosesSun() {
        EDGE.of(STEP, "The first layer loses SUN");
        first(40, 0, 0, 0, 0, 40);
        first(40, 0, 1, 0, 0, 39);
        first(40, 0, 19, 0, 0, 21);
        first(40, 0, 20, 0, 0, 20);
    }

    private static void firstLosesGrass() {
        EDGE.of(STEP, "and GRASS by 12");
        first(40, 0, 0, 11, 0, 40);
        first(40, 0, 0, 12, 0, 39);
        first(40, 0, 0, 13, 0, 39);
        first(40, 0, 0, 23, 0, 39);
        first(40, 0, 0, 24, 0, 38);
        first(40, 0, 0, 25, 0, 38);
        first(40, 0, 0, 59, 0, 36);
        first(40, 0, 0, 60, 0, 35);
    }

    private static void bothTogether() {
        EDGE.of(STEP, "SUN and GRASS by 12 (both together)");
        first(40, 0, 11, 11, 0, 29);
        first(40, 0, 11, 12, 0, 28);
        first(40, 0, 1, 11, 0, 39);
        first(40, 0, 20, 60, 0, 15);
        first(40, 0, 3, 12, COVERED, 38);
    }

    private static void firstNotBelowZero() {
        EDGE.of(STEP, CUT, "the first layer");
        first(19, 0, 20, 0, 0, 0);
        first(20, 0, 20, 0, 0, 0);
        first(21, 0, 20, 0, 0, 1);
        first(5, 0, 5, 12, 0, 0);
        first(6, 0, 5, 12, 0, 0);
        first(7, 0, 5, 12, 0, 1);
        first(0, 0, 20, 60, 0, 0);
    }

    private static void second(int second, int grass, int want) {
        EDGE.due("second layer of " + second + " with grass " + grass,
                day(of(0, second, 100, grass, 50, 0), 0, 20, 0, 0).told(0, 1), want);
    }

    private static void secondLosesGrass() {
        EDGE.of(STEP, "the second GRASS by 20");
        second(40, 19, 40);
        second(40, 20, 39);
        second(40, 21, 39);
        second(40, 39, 39);
        second(40, 40, 38);
        second(40, 41, 38);
        second(40, 59, 38);
        second(40, 60, 37);
        second(0, 20, 0);
        second(1, 20, 0);
        second(2, 20, 1);
        second(2, 60, 0);
        second(3, 60, 0);
        second(4, 60, 1);
    }

    private static void hard(int first, int second, int hard, int works, int want) {
        EDGE.due("HARD " + hard + " at " + first + " over " + second + ", works " + works,
                day(of(first, second, 100, 0, hard, 0), 0, 0, works, 0).told(0, 4), want);
    }

    private static void rolledFirstLayer() {
        EDGE.of(STEP, "ROLLED: if the first layer is from 25 to 60");
        hard(0, 65, 50, ROLLED, 50);
        hard(24, 65, 50, ROLLED, 50);
        hard(25, 65, 50, ROLLED, 57);
        hard(26, 65, 50, ROLLED, 57);
        hard(59, 65, 50, ROLLED, 57);
        hard(60, 65, 50, ROLLED, 57);
        hard(61, 65, 50, ROLLED, 44);
        hard(62, 65, 50, ROLLED, 44);
        hard(25, 65, 50, 0, 50);
        hard(60, 65, 50, 0, 50);
        hard(61, 65, 50, 0, 50);
        hard(40, 65, 50, COVERED + MOWN + SEEDED, 50);
    }

    private static void rolledSecondLayer() {
        EDGE.of(STEP, "and the second not above 70");
        hard(50, 69, 50, ROLLED, 57);
        hard(50, 70, 50, ROLLED, 57);
        hard(50, 71, 50, ROLLED, 50);
        hard(50, 100, 50, ROLLED, 50);
        hard(24, 71, 50, ROLLED, 50);
        hard(25, 71, 50, ROLLED, 50);
        hard(59, 71, 50, ROLLED, 50);
        hard(60, 71, 50, ROLLED, 50);
        hard(61, 71, 50, ROLLED, 44);
        hard(61, 70, 50, ROLLED, 44);
        hard(0, 0, 50, ROLLED, 50);
        hard(30, 30, 50, ROLLED, 57);
    }

    private static void rolledOn(int[] state, int rain, int sun, int want) {
        EDGE.due("HARD of " + state[0] + ", " + state[1] + ", grass " + state[3] + ", rain " + rain
                + ", sun " + sun, day(state, rain, sun, ROLLED, 0).told(0, 4), want);
    }

    private static void rolledBehindTheSun() {
        EDGE.of(STEP, "in this order", "ROLLED behind the layers' gains and losses");
        rolledOn(of(30, 65, 100, 0, 50, 0), 0, 4, 57);
        rolledOn(of(30, 65, 100, 0, 50, 0), 0, 5, 57);
        rolledOn(of(30, 65, 100, 0, 50, 0), 0, 6, 50);
        rolledOn(of(70, 70, 100, 0, 50, 0), 0, 9, 44);
        rolledOn(of(70, 70, 100, 0, 50, 0), 0, 10, 57);
        rolledOn(of(70, 70, 100, 0, 50, 0), 0, 11, 57);
        rolledOn(of(55, 70, 100, 0, 50, 0), 5, 0, 57);
        rolledOn(of(55, 70, 100, 0, 50, 0), 6, 0, 44);
        // 71 less 20 by 20 is 70.
        rolledOn(of(50, 71, 100, 20, 50, 0), 0, 0, 57);
        rolledOn(of(50, 72, 100, 20, 50, 0), 0, 0, 50);
        rolledOn(of(50, 71, 100, 19, 50, 0), 0, 0, 50);
    }

    private static void hardGrows() {
        EDGE.of(STEP, "HARD grows by 1 and (100 less HARD) by 8");
        int[][] hards = {{0, 13}, {1, 14}, {3, 16}, {4, 17}, {5, 17}, {83, 86}, {84, 87}, {85, 87},
            {91, 93}, {92, 94}, {93, 94}, {98, 99}, {99, 100}, {100, 100}};
        for (int[] hard : hards) {
            hard(40, 60, hard[0], ROLLED, hard[1]);
        }
    }

    private static void hardFallsBySix() {
        EDGE.of(STEP, "if the first is above 60, HARD falls by 6");
        hard(61, 65, 100, ROLLED, 94);
        hard(61, 65, 7, ROLLED, 1);
        hard(61, 65, 6, ROLLED, 0);
        hard(61, 65, 5, ROLLED, 0);
        hard(61, 65, 0, ROLLED, 0);
    }

    private static void hardFallsByOne() {
        EDGE.of(STEP, "Then, ROLLED or not, HARD falls by 1 if the first layer is above 70");
        hard(69, 80, 50, 0, 50);
        hard(70, 80, 50, 0, 50);
        hard(71, 80, 50, 0, 49);
        hard(72, 80, 50, 0, 49);
        hard(100, 100, 50, 0, 49);
        hard(69, 80, 50, ROLLED, 44);
        hard(70, 80, 50, ROLLED, 44);
        hard(71, 80, 50, ROLLED, 43);
        hard(71, 80, 0, 0, 0);
        hard(71, 80, 1, 0, 0);
        hard(71, 80, 2, 0, 1);
        hard(71, 80, 6, ROLLED, 0);
        hard(71, 80, 7, ROLLED, 0);
        hard(71, 80, 8, ROLLED, 1);
        EDGE.due("HARD at 72 less sun 2", day(of(72, 80, 100, 0, 50, 0), 0, 2, 0, 0).told(0, 4), 50);
        EDGE.due("HARD at 72 less sun 1", day(of(72, 80, 100, 0, 50, 0), 0, 1, 0, 0).told(0, 4), 49);
    }

    private static void grass(int second, int grass, int wear, int works, int want) {
        EDGE.due("GRASS " + grass + " over " + second + ", WEAR " + wear + ", works " + works,
                day(of(0, second, 100, grass, 50, wear), 0, 0, works, 0).told(0, 3), want);
    }

    private static void grassByWear() {
        EDGE.of(STEP, "GRASS, where WEAR is not above 50 (else it stays)");
        int[] seconds = {5, 15, 50, 85, 95};
        int[] changes = {-1, 1, 2, 1, -1};
        for (int i = 0; i < seconds.length; i++) {
            grass(seconds[i], 10, 0, 0, 10 + changes[i]);
            grass(seconds[i], 10, 49, 0, 10 + changes[i]);
            grass(seconds[i], 10, 50, 0, 10 + changes[i]);
            grass(seconds[i], 10, 51, 0, 10);
            grass(seconds[i], 10, 100, 0, 10);
        }
    }

    private static void grassBySecond() {
        EDGE.of(STEP, "if the second layer is from 20 to 80; else by 1 if it is from 10 to 90; else");
        int[][] seconds = {{0, 9}, {8, 9}, {9, 9}, {10, 11}, {11, 11}, {18, 11}, {19, 11}, {20, 12},
            {21, 12}, {79, 12}, {80, 12}, {81, 11}, {82, 11}, {89, 11}, {90, 11}, {91, 9}, {92, 9},
            {100, 9}};
        for (int[] second : seconds) {
            grass(second[0], 10, 0, 0, second[1]);
        }
    }

    private static void grassBehindTheSeep() {
        EDGE.of(STEP, "in this order", "GRASS behind the second layer's gains and losses");
        // 20 by 20 is lost ahead of it.
        grass(21, 20, 0, 0, 22);
        grass(20, 20, 0, 0, 21);
        grass(11, 20, 0, 0, 21);
        grass(10, 20, 0, 0, 19);
        grass(81, 20, 0, 0, 22);
        grass(82, 20, 0, 0, 21);
        // 4 by 4 comes from the first layer.
        EDGE.due("GRASS, 23 over 19", day(of(23, 19, 100, 10, 50, 0), 0, 0, 0, 0).told(0, 3), 12);
        EDGE.due("GRASS, 22 over 19", day(of(22, 19, 100, 10, 50, 0), 0, 0, 0, 0).told(0, 3), 11);
    }

    private static void grassIsCut() {
        EDGE.of(STEP, CUT, "GRASS");
        grass(50, 57, 0, 0, 59);
        grass(50, 58, 0, 0, 60);
        grass(50, 59, 0, 0, 60);
        grass(50, 60, 0, 0, 60);
        grass(18, 58, 0, 0, 59);
        grass(18, 59, 0, 0, 60);
        grass(18, 60, 0, 0, 60);
        grass(5, 0, 0, 0, 0);
        grass(5, 1, 0, 0, 0);
        grass(5, 2, 0, 0, 1);
        grass(50, 0, 0, 0, 2);
    }

    private static void mown() {
        EDGE.of(STEP, "MOWN: GRASS is 6 at most then");
        grass(50, 0, 0, MOWN, 2);
        grass(50, 3, 0, MOWN, 5);
        grass(50, 4, 0, MOWN, 6);
        grass(50, 5, 0, MOWN, 6);
        grass(50, 6, 0, MOWN, 6);
        grass(50, 60, 0, MOWN, 6);
        grass(5, 6, 0, MOWN, 5);
        grass(5, 7, 0, MOWN, 6);
        grass(5, 8, 0, MOWN, 6);
        // Where it stays for its wear, it is mown all the same.
        grass(50, 5, 51, MOWN, 5);
        grass(50, 6, 51, MOWN, 6);
        grass(50, 7, 51, MOWN, 6);
        grass(50, 5, 0, COVERED + ROLLED + SEEDED, 7);
    }

    private static void wear(int wear, int works, int balls, int want) {
        EDGE.due("WEAR " + wear + ", works " + works + ", balls " + balls,
                day(of(40, 40, 40, 0, 50, wear), 0, 0, works, balls).told(0, 5), want);
    }

    private static void seeded() {
        EDGE.of(STEP, "WEAR falls by 3");
        wear(0, SEEDED, 0, 0);
        wear(1, SEEDED, 0, 0);
        wear(2, SEEDED, 0, 0);
        wear(3, SEEDED, 0, 0);
        wear(4, SEEDED, 0, 1);
        wear(100, SEEDED, 0, 97);
        wear(10, 0, 0, 10);
        wear(10, COVERED + ROLLED + MOWN + WATERED, 0, 10);
    }

    private static void seededNotPlayed() {
        EDGE.of(STEP, "SEEDED, and no BALLS PLAYED");
        wear(10, SEEDED, 0, 7);
        wear(10, SEEDED, 1, 10);
        wear(10, SEEDED, 2, 10);
        wear(10, SEEDED, 39, 10);
        wear(10, SEEDED, 40, 11);
        wear(2, SEEDED, 1000, 27);
    }

    private static void wearGrows() {
        EDGE.of(STEP, "PLAYED: WEAR grows by BALLS by 40");
        int[][] balls = {{0, 0}, {1, 0}, {39, 0}, {40, 1}, {41, 1}, {79, 1}, {80, 2}, {81, 2},
            {959, 23}, {960, 24}, {999, 24}, {1000, 25}};
        for (int[] each : balls) {
            wear(0, 0, each[0], each[1]);
        }
    }

    private static void wearIsCut() {
        EDGE.of(STEP, CUT, "WEAR");
        wear(98, 0, 40, 99);
        wear(99, 0, 40, 100);
        wear(100, 0, 40, 100);
        wear(100, 0, 39, 100);
        wear(74, 0, 1000, 99);
        wear(75, 0, 1000, 100);
        wear(76, 0, 1000, 100);
    }

    private static void hardPlayed(int hard, int works, int balls, int want) {
        EDGE.due("HARD " + hard + ", works " + works + ", balls " + balls,
                day(of(40, 40, 40, 0, hard, 0), 0, 0, works, balls).told(0, 4), want);
    }

    private static void hardFallsByBalls() {
        EDGE.of(STEP, "HARD falls by BALLS by 200");
        int[][] balls = {{0, 50}, {1, 50}, {199, 50}, {200, 49}, {201, 49}, {399, 49}, {400, 48},
            {401, 48}, {999, 46}, {1000, 45}};
        for (int[] each : balls) {
            hardPlayed(50, 0, each[0], each[1]);
        }
        hardPlayed(0, 0, 1000, 0);
        hardPlayed(4, 0, 1000, 0);
        hardPlayed(5, 0, 1000, 0);
        hardPlayed(6, 0, 1000, 1);
    }

    private static void hardIsCutAsItIsMade() {
        EDGE.of(STEP, CUT, "HARD, ROLLED and then PLAYED");
        // 101 would be cut to 100 ahead of the balls.
        hardPlayed(100, ROLLED, 1000, 95);
        hardPlayed(99, ROLLED, 1000, 95);
        hardPlayed(98, ROLLED, 1000, 94);
    }

    private static void inThisOrder() {
        EDGE.of(STEP, "in this order", "GRASS by WEAR ahead of SEEDED and PLAYED");
        EDGE.state("WEAR 50 and 40 balls", day(of(0, 50, 100, 10, 50, 50), 0, 0, 0, 40), 0,
                0, 50, 90, 12, 50, 51);
        EDGE.state("WEAR 51, SEEDED", day(of(0, 50, 100, 10, 50, 51), 0, 0, SEEDED, 0), 0,
                0, 50, 90, 10, 50, 48);
        // The grass that the layers lose to is that ahead of growing and mowing.
        EDGE.state("GRASS 10 grows to 12", day(of(40, 50, 100, 10, 50, 0), 0, 0, 0, 0), 0,
                40, 50, 90, 12, 50, 0);
        EDGE.state("GRASS 24 is mown", day(of(40, 50, 100, 24, 50, 0), 0, 0, MOWN, 0), 0,
                38, 49, 90, 6, 50, 0);
        // Rolling grows by what is hard ahead of the balls.
        hardPlayed(92, ROLLED, 1000, 89);
        hardPlayed(93, ROLLED, 1000, 89);
    }
}
