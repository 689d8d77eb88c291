import java.util.Random;

/**
 * All promises: runs of calls, drawn from fixed seeds, against PlainSquare. What later calls answer
 * is free, so every call is counted, and a run ends while the object's 512 still hold a turn.
 */
public final class RandomRunsTest {
    private static final int RUNS = 3000;
    private static final int CALLS = 512;
    private static final int MOST_CALLS_OF_A_TURN = 64;
    private static final int LONGEST_TEXT = 420;
    private static final String[] WORDS = {"a", "b", "abcdefgh", "abcdefghi", "when", "when", "when",
        "and", "and", "and", "bounce", "first", "second", "third", "grass", "hard", "wear", "rain",
        "<", ">", "=", ";", ";", "0", "5", "40", "100", "999", "1000", "!", "\n"};
    private static final String[] WHATS = {"bounce", "first", "second", "third", "grass", "hard",
        "wear", "rain"};

    private final Check check;
    private final Random random;
    private final PitchSquare x = new PitchSquare();
    private final PlainSquare y = new PlainSquare();
    private int made = 0;

    private RandomRunsTest(Check check, int seed) {
        this.check = check;
        this.random = new Random(seed);
    }

    public static void main(String[] args) {
        Check check = new Check();
        for (int seed = 0; seed < RUNS && check.isClean(); seed++) {
            new RandomRunsTest(check, seed).run(seed % 4);
        }
        check.end();
    }

    /** Runs lean to one part of the class each, so that its calls meet many of their kind. */
    private void run(int lean) {
        int strips = random.nextInt(9);
        for (int i = 0; i < strips; i++) {
            same("strip()", x.strip(), y.strip());
        }
        if (random.nextInt(8) == 0) {
            almostFill(lean);
        }
        while (made + MOST_CALLS_OF_A_TURN <= CALLS && check.isClean()) {
            int part = random.nextInt(3) == 0 ? random.nextInt(4) : lean;
            switch (part) {
                case 0 -> callOfDays(random.nextInt(9));
                case 1 -> callOfPlans(random.nextInt(8));
                case 2 -> callOfRules(random.nextInt(8));
                default -> callOfSeason(random.nextInt(9));
            }
        }
        check.yes("a run makes no more than 512 calls", made <= CALLS);
    }

    /** Measures or marks up to some few that are left, so that runs meet the last of them. */
    private void almostFill(int lean) {
        int left = random.nextInt(6);
        if (lean == 1) {
            for (int i = left; i < 200; i++) {
                int strip = random.nextInt(8);
                int bounce = random.nextInt(101);
                alike("measure", number(x.measure(strip, i % 4, bounce)),
                        y.measure(strip, i % 4, bounce));
            }
        }
        if (lean == 3) {
            for (int i = 0; i < 8; i++) {
                callOfSeason(0);
            }
            for (int i = left; i < 100; i++) {
                callOfMarks();
            }
        }
    }

    /** One answer. */
    private void alike(String call, long got, long want) {
        made++;
        check.due(call, got, want);
    }

    /** One answer, the status, and now and then the fraction. */
    private void same(String call, long got, long want) {
        alike(call, got, want);
        alike("status() behind " + call, x.status(), y.status);
        if (random.nextInt(8) == 0) {
            sameFraction(call);
        }
    }

    private void sameFraction(String call) {
        alike("upper() behind " + call, x.upper(), y.upper);
        alike("lower() behind " + call, x.lower(), y.lower);
    }

    private static long number(boolean answer) {
        return answer ? 1 : 0;
    }

    /** Mostly in bounds, sometimes at an edge, seldom far out. */
    private int some(int least, int most) {
        switch (random.nextInt(24)) {
            case 0:
                return least - 1;
            case 1:
                return most + 1;
            case 2:
                return least;
            case 3:
                return most;
            case 4:
                return random.nextInt(8) == 0 ? random.nextInt() : most;
            default:
                return least + random.nextInt(most - least + 1);
        }
    }

    private int near() {
        return random.nextInt(20) == 0 ? some(0, 999) : y.day + some(0, 6);
    }

    private void callOfDays(int which) {
        int strip = some(0, 7);
        switch (which) {
            case 0, 1 -> {
                int[] s = {some(0, 100), some(0, 100), some(0, 100), some(0, 60), some(0, 100),
                    some(0, 100)};
                if (random.nextBoolean()) {
                    for (int i = 0; i < 6; i++) {
                        s[i] = random.nextInt(61);
                    }
                }
                same("set", number(x.set(strip, s[0], s[1], s[2], s[3], s[4], s[5])),
                        y.set(strip, s));
            }
            case 2 -> {
                int day = near();
                int rain = some(0, 100);
                int sun = some(0, 20);
                boolean came = random.nextInt(3) > 0;
                same("weather", number(x.weather(day, rain, sun, came)),
                        y.weather(day, rain, sun, came));
            }
            case 3, 4 -> {
                int works = some(0, 31);
                same("work", number(x.work(strip, works)), y.work(strip, works));
            }
            case 5 -> {
                int balls = some(0, random.nextBoolean() ? 1000 : 300);
                same("play", number(x.play(strip, balls)), y.play(strip, balls));
            }
            case 6 -> {
                same("step", x.step(), y.step());
                everyState();
            }
            case 7 -> same("day", x.day(), y.day());
            default -> {
                int what = some(0, 6);
                same("told", x.told(strip, what), y.told(strip, what));
            }
        }
    }

    private void everyState() {
        for (int strip = 0; strip < 8; strip++) {
            for (int what = 0; what < 7; what++) {
                alike("told(" + strip + ", " + what + ")", x.told(strip, what), y.told(strip, what));
            }
        }
    }

    private void callOfPlans(int which) {
        int strip = some(0, 7);
        switch (which) {
            case 0 -> {
                int n = random.nextInt(5) == 0 ? some(1, 6) : some(1, 4);
                int covers = some(0, 6);
                int rolls = some(0, 6);
                same("plan", x.plan(strip, n, covers, rolls), y.plan(strip, n, covers, rolls));
                for (int k = -1; k < 7; k++) {
                    same("planned(" + k + ")", x.planned(k), y.planned(k));
                }
            }
            case 1, 2 -> {
                int day = near();
                int rain = some(0, 100);
                int sun = some(0, 20);
                same("weather", number(x.weather(day, rain, sun, false)),
                        y.weather(day, rain, sun, false));
            }
            case 3 -> callOfDays(0);
            case 4, 5 -> {
                int day = random.nextInt(8) == 0 ? some(0, 999) : random.nextInt(4);
                int bounce = some(0, 100);
                same("measure", number(x.measure(strip, day, bounce)),
                        y.measure(strip, day, bounce));
            }
            default -> {
                int day = random.nextInt(8) == 0 ? some(0, 999) : random.nextInt(4);
                same("reads", number(x.reads(strip, day)), y.reads(strip, day));
                sameFraction("reads");
            }
        }
    }

    private String goodText() {
        StringBuilder text = new StringBuilder();
        int rules = 1 + random.nextInt(random.nextInt(4) == 0 ? 9 : 4);
        for (int i = 0; i < rules; i++) {
            text.append((char) ('a' + (random.nextInt(30) == 0 ? 0 : i))).append(" when ");
            int tests = 1 + random.nextInt(random.nextInt(9) == 0 ? 7 : 2);
            for (int t = 0; t < tests; t++) {
                text.append(t == 0 ? "" : " and ").append(WHATS[random.nextInt(8)]);
                text.append("<>=".charAt(random.nextInt(3))).append(random.nextInt(80));
            }
            text.append(";");
        }
        return text.toString();
    }

    private String anyText() {
        StringBuilder text = new StringBuilder(goodText());
        int changes = random.nextInt(3);
        for (int i = 0; i < changes; i++) {
            String word = random.nextInt(9) == 0 ? String.valueOf((char) random.nextInt(256))
                    : WORDS[random.nextInt(WORDS.length)];
            int at = random.nextInt(text.length() + 1);
            int end = Math.min(text.length(), at + random.nextInt(4));
            text.replace(at, end, random.nextBoolean() ? " " + word + " " : word);
        }
        if (random.nextInt(5) == 0) {
            text.setLength(random.nextInt(text.length() + 1));
        }
        return text.toString();
    }

    /** A text of more than 400 bytes does not get onto the tape as a whole. */
    private void feedAndRead(String whole) {
        String text = whole.substring(0, Math.min(whole.length(), LONGEST_TEXT));
        for (int start = 0; start < text.length(); start += 20) {
            int[] w = new int[5];
            for (int i = 0; i < 20; i++) {
                int b = start + i < text.length() ? text.charAt(start + i) : ' ';
                w[i / 4] |= b << (24 - i % 4 * 8);
            }
            alike("feed", x.feed(w[0], w[1], w[2], w[3], w[4]), y.feed(w));
        }
        alike("status() behind feed", x.status(), y.status);
        int n = random.nextInt(9) == 0 ? some(0, 400) : Math.min(text.length(), 400);
        same("rules of [" + text + "]", x.rules(n), y.rules(n));
        for (int what = -1; what < 3; what++) {
            alike("fault(" + what + ") of [" + text + "]", x.fault(what), y.fault(what));
        }
    }

    private void callOfRules(int which) {
        int strip = some(0, 7);
        switch (which) {
            case 0, 1 -> feedAndRead(anyText());
            case 2 -> feedAndRead(goodText());
            case 3 -> callOfDays(0);
            case 4 -> callOfPlans(1);
            case 5 -> {
                int many = some(1, 60);
                int rule = random.nextInt(4) == 0 ? some(0, 7) : random.nextInt(3);
                same("when", x.when(strip, rule, many), y.when(strip, rule, many));
            }
            case 6 -> callOfDays(6);
            default -> same("rate", x.rate(strip), y.rate(strip));
        }
    }

    private void callOfSeason(int which) {
        int match = some(0, 7);
        switch (which) {
            case 0 -> {
                int day = random.nextInt(3) == 0 ? some(0, 999) : random.nextInt(120);
                int rank = random.nextInt(3) == 0 ? 9 : some(0, 9);
                same("match", x.match(day, rank), y.match(day, rank));
            }
            case 1, 2 -> {
                int strip = some(0, 7);
                int worth = random.nextBoolean() ? some(0, 100) : 48 + random.nextInt(5);
                same("worth", number(x.worth(match, strip, worth)), y.worth(match, strip, worth));
            }
            case 3 -> {
                int rest = random.nextBoolean() ? some(0, 60) : random.nextInt(20);
                int spared = some(0, 100);
                same("rests", number(x.rests(rest, spared)), y.rests(rest, spared));
            }
            case 4 -> {
                if (random.nextInt(8) == 0) {
                    same("give", x.give(), y.give());
                }
            }
            case 5 -> {
                if (random.nextInt(8) == 0) {
                    same("given", x.given(match), y.given(match));
                }
            }
            case 6 -> callOfMarks();
            case 7 -> {
                int result = some(0, 2);
                same("part", number(x.part(result)), y.part(result));
                sameFraction("part");
            }
            default -> {
                same("fair", number(x.fair(match)), y.fair(match));
                sameFraction("fair");
            }
        }
    }

    private void callOfMarks() {
        int match = some(0, 7);
        int result = some(0, 2);
        int mark = some(0, 10);
        same("mark", number(x.mark(match, result, mark)), y.mark(match, result, mark));
    }
}
