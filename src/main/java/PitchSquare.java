/**
 * A groundsman's square: its strips and how they are stepped through the days, the measures of
 * them, plans of works, rules that rate them, and a season of matches with the captains' marks.
 */
public final class PitchSquare {
    public static final int NONE = -1;

    private static final int FINE = 0;
    private static final int NO_SUCH = 1;
    private static final int BAD_NUMBER = 2;
    private static final int TOO_MANY = 3;
    private static final int DAY_GONE = 4;
    private static final int NOTHING_THERE = 5;
    private static final int IMPOSSIBLE = 6;
    private static final int DAY_TAKEN = 7;
    private static final int FAULTY = 8;

    private static final int MOST_STRIPS = 8;
    private static final int MOST_MATCHES = 8;
    private static final int MOST_PLAN_DAYS = 6;
    private static final int MOST_DAYS_AHEAD = 60;
    private static final int MOST_BALLS = 1000;
    private static final int LAST_DAY = 999;
    private static final int RESULTS = 3;

    private static final int COVERED = 1;
    private static final int ROLLED = 2;
    private static final int MOWN = 4;
    private static final int WATERED = 8;
    private static final int SEEDED = 16;
    private static final int ALL_WORKS = 31;

    private static final int MOST_WET = 100;
    private static final int MOST_GRASS = 60;
    private static final int MOST_HARD = 100;
    private static final int MOST_WEAR = 100;
    private static final int MOST_RAIN = 100;
    private static final int MOST_SUN = 20;

    // What told() and the tests of rules ask of a strip; the rules know rain beside these.
    private static final int ASK_FIRST = 0;
    private static final int ASK_SECOND = 1;
    private static final int ASK_THIRD = 2;
    private static final int ASK_GRASS = 3;
    private static final int ASK_HARD = 4;
    private static final int ASK_WEAR = 5;
    private static final int ASK_BOUNCE = 6;
    private static final int ASK_RAIN = 7;

    private final Turf[] turfs = new Turf[MOST_STRIPS];
    private final Turf tryTurf = new Turf();
    private final Weather foretoldWeather = new Weather();
    private final Weather cameWeather = new Weather();
    private final Measures measures = new Measures();
    private final Planner planner = new Planner();
    private final Tape tape = new Tape();
    private final RuleReader reader = new RuleReader(tape);
    private final Season season = new Season();
    private final Marks marks = new Marks();
    private final Fraction fraction = new Fraction();
    private RuleBook ruleBook = new RuleBook();
    private int lastStatus = FINE;
    private int stripCount = 0;
    private int today = 0;

    public PitchSquare() {
        for (int i = 0; i < MOST_STRIPS; i++) {
            turfs[i] = new Turf();
        }
    }

    public int status() {
        return lastStatus;
    }

    public int strip() {
        if (stripCount >= MOST_STRIPS) {
            return refuse(TOO_MANY);
        }
        stripCount++;
        return answer(stripCount - 1);
    }

    public boolean set(int strip, int first, int second, int third, int grass, int hard, int wear) {
        if (!hasStrip(strip)) {
            return deny(NO_SUCH);
        }
        boolean layersCanBe = within(first, 0, MOST_WET) && within(second, 0, MOST_WET)
                && within(third, 0, MOST_WET);
        boolean restCanBe = within(grass, 0, MOST_GRASS) && within(hard, 0, MOST_HARD)
                && within(wear, 0, MOST_WEAR);
        if (!layersCanBe || !restCanBe) {
            return deny(BAD_NUMBER);
        }
        turfs[strip].setLayers(first, second, third);
        turfs[strip].setSurface(grass, hard, wear);
        return done();
    }

    public int told(int strip, int what) {
        if (!hasStrip(strip)) {
            return refuse(NO_SUCH);
        }
        if (!within(what, ASK_FIRST, ASK_BOUNCE)) {
            return refuse(BAD_NUMBER);
        }
        return answer(turfs[strip].valueOf(what));
    }

    public boolean weather(int day, int rain, int sun, boolean came) {
        if (!isDay(day) || !within(rain, 0, MOST_RAIN) || !within(sun, 0, MOST_SUN)) {
            return deny(BAD_NUMBER);
        }
        if (day < today) {
            return deny(DAY_GONE);
        }
        Weather kept = came ? cameWeather : foretoldWeather;
        kept.keep(day, rain, sun);
        return done();
    }

    public boolean work(int strip, int works) {
        if (!hasStrip(strip)) {
            return deny(NO_SUCH);
        }
        if (!within(works, 0, ALL_WORKS)) {
            return deny(BAD_NUMBER);
        }
        turfs[strip].orderWorks(works);
        return done();
    }

    public boolean play(int strip, int balls) {
        if (!hasStrip(strip)) {
            return deny(NO_SUCH);
        }
        if (!within(balls, 0, MOST_BALLS - turfs[strip].ballsToday())) {
            return deny(BAD_NUMBER);
        }
        turfs[strip].addBalls(balls);
        return done();
    }

    public int step() {
        if (today >= LAST_DAY) {
            return refuse(IMPOSSIBLE);
        }
        for (int i = 0; i < stripCount; i++) {
            turfs[i].endDay(cameWeather.rainOn(today), cameWeather.sunOn(today));
        }
        today++;
        return answer(today);
    }

    public int day() {
        return answer(today);
    }

    public boolean measure(int strip, int day, int bounce) {
        if (!hasStrip(strip)) {
            return deny(NO_SUCH);
        }
        if (!isDay(day) || !within(bounce, 0, 100)) {
            return deny(BAD_NUMBER);
        }
        if (measures.isFull()) {
            return deny(TOO_MANY);
        }
        measures.add(strip, day, bounce);
        return done();
    }

    public boolean reads(int strip, int day) {
        if (!hasStrip(strip)) {
            return deny(NO_SUCH);
        }
        if (!isDay(day)) {
            return deny(BAD_NUMBER);
        }
        if (!measures.readInto(fraction, strip, day)) {
            return deny(NOTHING_THERE);
        }
        return done();
    }

    public int plan(int strip, int n, int covers, int rolls) {
        if (!hasStrip(strip)) {
            return refuse(NO_SUCH);
        }
        boolean limitsCanBe = within(covers, 0, MOST_PLAN_DAYS) && within(rolls, 0, MOST_PLAN_DAYS);
        if (!within(n, 1, MOST_PLAN_DAYS) || !limitsCanBe) {
            return refuse(BAD_NUMBER);
        }
        if (today + n > LAST_DAY) {
            return refuse(IMPOSSIBLE);
        }
        planner.beginWith(turfs[strip], foretoldWeather, today, n);
        return answer(planner.bestBounce(covers, rolls));
    }

    public int planned(int k) {
        int works = planner.worksOn(k);
        return works == NONE ? refuse(NOTHING_THERE) : answer(works);
    }

    // ---- RULES

    public int feed(int a, int b, int c, int d, int e) {
        if (!tape.hasRoomForTwenty()) {
            return NONE;
        }
        tape.append(a);
        tape.append(b);
        tape.append(c);
        tape.append(d);
        tape.append(e);
        return tape.size();
    }

    public int rules(int n) {
        if (!within(n, 0, tape.size())) {
            return refuse(BAD_NUMBER);
        }
        boolean faultless = reader.readAll(n);
        tape.clear();
        if (!faultless) {
            return refuse(FAULTY);
        }
        ruleBook = reader.exchangeBook(ruleBook);
        return answer(ruleBook.ruleCount());
    }

    public int fault(int what) {
        if (what == 0) {
            return reader.faultKind();
        }
        return what == 1 ? reader.faultPlace() : NONE;
    }

    public int rate(int strip) {
        if (!hasStrip(strip)) {
            return refuse(NO_SUCH);
        }
        int rule = ruleBook.ruleFor(turfs[strip], foretoldWeather.rainOn(today));
        return rule == NONE ? refuse(NOTHING_THERE) : answer(rule);
    }

    public int when(int strip, int rule, int many) {
        if (!hasStrip(strip)) {
            return refuse(NO_SUCH);
        }
        if (!within(rule, 0, ruleBook.ruleCount() - 1) || !within(many, 1, MOST_DAYS_AHEAD)) {
            return refuse(BAD_NUMBER);
        }
        if (today + many > LAST_DAY) {
            return refuse(IMPOSSIBLE);
        }
        tryTurf.copyFrom(turfs[strip]);
        for (int day = today; day < today + many; day++) {
            if (ruleBook.ruleFor(tryTurf, foretoldWeather.rainOn(day)) == rule) {
                return answer(day);
            }
            tryTurf.passDay(foretoldWeather.rainOn(day), foretoldWeather.sunOn(day), 0, 0);
        }
        return refuse(NOTHING_THERE);
    }

    // ---- the season

    public int match(int day, int rank) {
        if (!isDay(day) || !within(rank, 0, 9)) {
            return refuse(BAD_NUMBER);
        }
        if (season.isFull()) {
            return refuse(TOO_MANY);
        }
        if (season.isTaken(day)) {
            return refuse(DAY_TAKEN);
        }
        return answer(season.addMatch(day, rank));
    }

    public boolean worth(int match, int strip, int worth) {
        if (!season.hasMatch(match) || !hasStrip(strip)) {
            return deny(NO_SUCH);
        }
        if (!within(worth, 0, 100)) {
            return deny(BAD_NUMBER);
        }
        season.setWorth(match, strip, worth);
        return done();
    }

    public boolean rests(int rest, int spared) {
        if (!within(rest, 0, 60) || !within(spared, 0, 100)) {
            return deny(BAD_NUMBER);
        }
        season.setRests(rest, spared);
        return done();
    }

    public int give() {
        int total = season.bestWorth(stripCount);
        return total == NONE ? refuse(IMPOSSIBLE) : answer(total);
    }

    public int given(int match) {
        if (!season.hasMatch(match)) {
            return refuse(NO_SUCH);
        }
        int strip = season.bestStrip(match, stripCount);
        return strip == NONE ? refuse(IMPOSSIBLE) : answer(strip);
    }

    public boolean mark(int match, int result, int mark) {
        if (!season.hasMatch(match)) {
            return deny(NO_SUCH);
        }
        if (!within(result, 0, RESULTS - 1) || !within(mark, 0, 10)) {
            return deny(BAD_NUMBER);
        }
        if (marks.isFull()) {
            return deny(TOO_MANY);
        }
        marks.add(match, result, mark);
        return done();
    }

    public boolean part(int result) {
        if (!within(result, 0, RESULTS - 1)) {
            return deny(BAD_NUMBER);
        }
        marks.partInto(fraction, result);
        return done();
    }

    public boolean fair(int match) {
        if (!season.hasMatch(match)) {
            return deny(NO_SUCH);
        }
        if (!marks.fairInto(fraction, match)) {
            return deny(NOTHING_THERE);
        }
        return done();
    }

    public long upper() {
        return fraction.upperNumber();
    }

    public long lower() {
        return fraction.lowerNumber();
    }

    private int answer(int value) {
        lastStatus = FINE;
        return value;
    }

    private int refuse(int why) {
        lastStatus = why;
        return NONE;
    }

    private boolean done() {
        lastStatus = FINE;
        return true;
    }

    private boolean deny(int why) {
        lastStatus = why;
        return false;
    }

    private boolean hasStrip(int strip) {
        return strip >= 0 && strip < stripCount;
    }

    private static boolean isDay(int day) {
        return within(day, 0, LAST_DAY);
    }

    private static boolean within(int number, int least, int most) {
        return number >= least && number <= most;
    }

    private static int cut(int number, int most) {
        return Math.max(0, Math.min(number, most));
    }

    /** One strip: its state, and the works and balls told for today. */
    private static final class Turf {
        private int first = 40;
        private int second = 40;
        private int third = 40;
        private int grass = 12;
        private int hard = 30;
        private int wear = 0;
        private int works = 0;
        private int balls = 0;

        void setLayers(int newFirst, int newSecond, int newThird) {
            first = newFirst;
            second = newSecond;
            third = newThird;
        }

        void setSurface(int newGrass, int newHard, int newWear) {
            grass = newGrass;
            hard = newHard;
            wear = newWear;
        }

        void copyFrom(Turf other) {
            setLayers(other.first, other.second, other.third);
            setSurface(other.grass, other.hard, other.wear);
        }

        void orderWorks(int newWorks) {
            works = newWorks;
        }

        int ballsToday() {
            return balls;
        }

        void addBalls(int more) {
            balls += more;
        }

        void endDay(int rain, int sun) {
            passDay(rain, sun, works, balls);
            works = 0;
            balls = 0;
        }

        int valueOf(int what) {
            switch (what) {
                case ASK_FIRST:
                    return first;
                case ASK_SECOND:
                    return second;
                case ASK_THIRD:
                    return third;
                case ASK_GRASS:
                    return grass;
                case ASK_HARD:
                    return hard;
                case ASK_WEAR:
                    return wear;
                default:
                    return bounce();
            }
        }

        int bounce() {
            int left = hard - wear / 4;
            if (first > 50) {
                left -= (first - 50) / 2;
            }
            if (grass > 10) {
                left -= (grass - 10) / 4;
            }
            return Math.max(0, left);
        }

        /** The order of these is the document's: each takes the numbers that the one ahead made. */
        void passDay(int rain, int sun, int doneWorks, int playedBalls) {
            boolean covered = (doneWorks & COVERED) != 0;
            soak(covered ? 0 : rain, (doneWorks & WATERED) != 0);
            seep();
            dry(covered ? sun / 2 : sun);
            harden((doneWorks & ROLLED) != 0);
            grow();
            if ((doneWorks & MOWN) != 0) {
                grass = Math.min(grass, 6);
            }
            if ((doneWorks & SEEDED) != 0 && playedBalls == 0) {
                wear = cut(wear - 3, MOST_WEAR);
            }
            wear = cut(wear + playedBalls / 40, MOST_WEAR);
            hard = cut(hard - playedBalls / 200, MOST_HARD);
        }

        private void soak(int rain, boolean watered) {
            first = cut(first + rain + (watered ? 8 : 0), MOST_WET);
        }

        private void seep() {
            if (first > second) {
                int down = (first - second) / 4;
                first = cut(first - down, MOST_WET);
                second = cut(second + down, MOST_WET);
            }
            if (second > third) {
                int down = (second - third) / 4;
                second = cut(second - down, MOST_WET);
                third = cut(third + down, MOST_WET);
            }
            third = cut(third - third / 10, MOST_WET);
        }

        private void dry(int sun) {
            first = cut(first - sun - grass / 12, MOST_WET);
            second = cut(second - grass / 20, MOST_WET);
        }

        private void harden(boolean rolled) {
            if (rolled) {
                if (within(first, 25, 60) && second <= 70) {
                    hard = cut(hard + 1 + (100 - hard) / 8, MOST_HARD);
                } else if (first > 60) {
                    hard = cut(hard - 6, MOST_HARD);
                }
            }
            if (first > 70) {
                hard = cut(hard - 1, MOST_HARD);
            }
        }

        private void grow() {
            if (wear > 50) {
                return;
            }
            if (within(second, 20, 80)) {
                grass = cut(grass + 2, MOST_GRASS);
            } else if (within(second, 10, 90)) {
                grass = cut(grass + 1, MOST_GRASS);
            } else {
                grass = cut(grass - 1, MOST_GRASS);
            }
        }
    }

    /** Rain and sun of every day, 0 where nothing is told. */
    private static final class Weather {
        private final int[] rains = new int[LAST_DAY + 1];
        private final int[] suns = new int[LAST_DAY + 1];

        void keep(int day, int rain, int sun) {
            if (isDay(day)) {
                rains[day] = rain;
                suns[day] = sun;
            }
        }

        int rainOn(int day) {
            return isDay(day) ? rains[day] : 0;
        }

        int sunOn(int day) {
            return isDay(day) ? suns[day] : 0;
        }
    }

    /** A number by another one, in lowest terms, the lower one above 0. */
    private static final class Fraction {
        private long over = 0;
        private long under = 1;

        void become(long newOver, long newUnder) {
            long common = commonDivisor(Math.abs(newOver), newUnder);
            if (newUnder > 0 && common > 0) {
                over = newOver / common;
                under = newUnder / common;
            }
        }

        long upperNumber() {
            return over;
        }

        long lowerNumber() {
            return under;
        }

        private static long commonDivisor(long one, long other) {
            long greater = one;
            long lesser = other;
            // Two longs need fewer than a hundred divisions.
            for (int turn = 0; turn < 100 && lesser != 0; turn++) {
                long left = greater % lesser;
                greater = lesser;
                lesser = left;
            }
            return greater;
        }
    }

    /** The measures of bounce, and what is read of a strip by them. */
    private static final class Measures {
        private static final int MOST = 200;

        private final int[] strips = new int[MOST];
        private final int[] days = new int[MOST];
        private final int[] bounces = new int[MOST];
        private int count = 0;

        boolean isFull() {
            return count >= MOST;
        }

        void add(int strip, int day, int bounce) {
            if (!isFull()) {
                strips[count] = strip;
                days[count] = day;
                bounces[count] = bounce;
                count++;
            }
        }

        /** False, and the fraction stays, if there is nothing to read by. */
        boolean readInto(Fraction fraction, int strip, int day) {
            int left = nearest(strip, -1, day);
            int right = nearest(strip, 1, day);
            if (left == NONE && right == NONE) {
                return false;
            }
            if (left == NONE || right == NONE || left == right) {
                int alone = left == NONE ? right : left;
                fraction.become(sumOf(alone, day), manyOf(alone, day));
                return true;
            }
            long leftMany = manyOf(left, day);
            long rightMany = manyOf(right, day);
            long leftPart = sumOf(left, day) * rightMany * (right - strip);
            long rightPart = sumOf(right, day) * leftMany * (strip - left);
            fraction.become(leftPart + rightPart, leftMany * rightMany * (right - left));
            return true;
        }

        /** The strip itself counts: one with measures of its own is its own nearest on both sides. */
        private int nearest(int strip, int way, int day) {
            int at = strip;
            for (int far = 0; far < MOST_STRIPS; far++) {
                if (manyOf(at, day) > 0) {
                    return at;
                }
                at += way;
            }
            return NONE;
        }

        private long manyOf(int strip, int day) {
            long many = 0;
            for (int i = 0; i < count; i++) {
                if (strips[i] == strip && days[i] == day) {
                    many++;
                }
            }
            return many;
        }

        private long sumOf(int strip, int day) {
            long sum = 0;
            for (int i = 0; i < count; i++) {
                if (strips[i] == strip && days[i] == day) {
                    sum += bounces[i];
                }
            }
            return sum;
        }
    }

    /** Looks for the best plan of covering and rolling by trying every one, and keeps it. */
    private static final class Planner {
        // The turf behind each day of the plan that is being tried; 0 is the strip as it is.
        private final Turf[] behind = new Turf[MOST_PLAN_DAYS + 1];
        private final int[] tried = new int[MOST_PLAN_DAYS];
        private final int[] best = new int[MOST_PLAN_DAYS];
        private final int[] rains = new int[MOST_PLAN_DAYS];
        private final int[] suns = new int[MOST_PLAN_DAYS];
        private int days = 0;
        private int mostBounce = NONE;
        private int fewestWorks = 0;

        Planner() {
            for (int i = 0; i <= MOST_PLAN_DAYS; i++) {
                behind[i] = new Turf();
            }
        }

        void beginWith(Turf turf, Weather weather, int firstDay, int many) {
            behind[0].copyFrom(turf);
            days = cut(many, MOST_PLAN_DAYS);
            for (int k = 0; k < days; k++) {
                rains[k] = weather.rainOn(firstDay + k);
                suns[k] = weather.sunOn(firstDay + k);
            }
        }

        int bestBounce(int covers, int rolls) {
            mostBounce = NONE;
            fewestWorks = 0;
            tryFrom(0, covers, rolls, 0);
            return mostBounce;
        }

        int worksOn(int k) {
            return k >= 0 && k < days ? best[k] : NONE;
        }

        /** Plans are tried in their order by numbers, so only a truly better one takes the place. */
        private void tryFrom(int k, int coversLeft, int rollsLeft, int works) {
            if (k >= days || k >= MOST_PLAN_DAYS) {
                weigh(works);
                return;
            }
            for (int choice = 0; choice <= (COVERED | ROLLED); choice++) {
                int covers = choice & COVERED;
                int rolls = (choice & ROLLED) / ROLLED;
                if (covers <= coversLeft && rolls <= rollsLeft) {
                    tried[k] = choice;
                    behind[k + 1].copyFrom(behind[k]);
                    behind[k + 1].passDay(rains[k], suns[k], choice, 0);
                    tryFrom(k + 1, coversLeft - covers, rollsLeft - rolls, works + covers + rolls);
                }
            }
        }

        private void weigh(int works) {
            int bounce = behind[days].bounce();
            if (bounce > mostBounce || (bounce == mostBounce && works < fewestWorks)) {
                mostBounce = bounce;
                fewestWorks = works;
                for (int k = 0; k < days; k++) {
                    best[k] = tried[k];
                }
            }
        }
    }

    /** The bytes that were fed and not yet read. */
    private static final class Tape {
        private static final int MOST = 400;

        private final int[] bytes = new int[MOST];
        private int count = 0;

        boolean hasRoomForTwenty() {
            return count + 20 <= MOST;
        }

        void append(int four) {
            for (int shift = 24; shift >= 0 && count < MOST; shift -= 8) {
                bytes[count] = (four >>> shift) & 255;
                count++;
            }
        }

        int size() {
            return count;
        }

        void clear() {
            count = 0;
        }

        int byteAt(int place) {
            return place >= 0 && place < count ? bytes[place] : NONE;
        }
    }

    /** Rules in their order, each with its tests. */
    private static final class RuleBook {
        private static final int MOST_RULES = 8;
        private static final int MOST_TESTS = 6;

        private final int[] testCounts = new int[MOST_RULES];
        private final int[][] asked = new int[MOST_RULES][MOST_TESTS];
        private final int[][] signs = new int[MOST_RULES][MOST_TESTS];
        private final int[][] numbers = new int[MOST_RULES][MOST_TESTS];
        private int count = 0;

        void clear() {
            count = 0;
        }

        int ruleCount() {
            return count;
        }

        boolean isFull() {
            return count >= MOST_RULES;
        }

        boolean isLatestRuleFull() {
            return count > 0 && testCounts[count - 1] >= MOST_TESTS;
        }

        void addRule() {
            if (!isFull()) {
                testCounts[count] = 0;
                count++;
            }
        }

        void addTest(int what, int sign, int number) {
            if (count > 0 && !isLatestRuleFull()) {
                int rule = count - 1;
                int test = testCounts[rule];
                asked[rule][test] = what;
                signs[rule][test] = sign;
                numbers[rule][test] = number;
                testCounts[rule]++;
            }
        }

        /** The first rule of which all tests hold, or NONE. */
        int ruleFor(Turf turf, int rain) {
            for (int rule = 0; rule < count; rule++) {
                if (allHold(rule, turf, rain)) {
                    return rule;
                }
            }
            return NONE;
        }

        private boolean allHold(int rule, Turf turf, int rain) {
            for (int test = 0; test < testCounts[rule]; test++) {
                int what = asked[rule][test];
                int value = what == ASK_RAIN ? rain : turf.valueOf(what);
                if (!holds(value, signs[rule][test], numbers[rule][test])) {
                    return false;
                }
            }
            return true;
        }

        private static boolean holds(int value, int sign, int number) {
            if (sign == '<') {
                return value < number;
            }
            return sign == '>' ? value > number : value == number;
        }
    }

    /** Reads a text from the tape, token by token, into a rule book; stops at the first fault. */
    private static final class RuleReader {
        private static final int NO_TOKEN = 1;
        private static final int CANT_STAND = 2;
        private static final int ONE_TOO_MANY = 3;
        private static final int NAME_TWICE = 4;

        // What is awaited next; a text may end only where a name may stand.
        private static final int A_NAME = 0;
        private static final int A_WHEN = 1;
        private static final int A_WHAT = 2;
        private static final int A_COMPARES = 3;
        private static final int A_NUMBER = 4;
        private static final int AN_END = 5;

        // Kinds of tokens; a sign's kind is its own byte.
        private static final int UNKNOWN = 0;
        private static final int WORD = 1;
        private static final int NUMBER = 2;

        private static final int MOST_NAME_LETTERS = 8;
        private static final int MOST_DIGITS = 3;

        private final int[] nameStarts = new int[RuleBook.MOST_RULES];
        private final int[] nameLengths = new int[RuleBook.MOST_RULES];
        private final Tape text;
        // Its own book, for the rules in force must outlive a faulty text.
        private RuleBook book = new RuleBook();
        private int textLength = 0;
        private int place = 0;
        private int tokenStart = 0;
        private int tokenKind = UNKNOWN;
        private int awaited = A_NAME;
        private int testWhat = 0;
        private int testSign = 0;
        private int foundKind = NONE;
        private int foundPlace = NONE;

        RuleReader(Tape tape) {
            text = tape;
        }

        int faultKind() {
            return foundKind;
        }

        int faultPlace() {
            return foundPlace;
        }

        /** Gives the book just read, and takes an old one to read the next text into. */
        RuleBook exchangeBook(RuleBook old) {
            RuleBook read = book;
            book = old;
            return read;
        }

        /** Whether the tape's first bytes, so many of them, have no fault. */
        boolean readAll(int length) {
            textLength = length;
            book.clear();
            place = 0;
            awaited = A_NAME;
            foundKind = 0;
            foundPlace = NONE;
            // A token has a byte at least, so there are no more tokens than bytes.
            for (int turn = 0; turn <= Tape.MOST && foundKind == 0 && nextToken(); turn++) {
                takeToken();
            }
            if (foundKind == 0 && awaited != A_NAME) {
                blame(CANT_STAND, textLength);
            }
            return foundKind == 0;
        }

        private void blame(int kind, int where) {
            foundKind = kind;
            foundPlace = where;
        }

        private void blameToken(int kind) {
            blame(kind, tokenStart);
        }

        /** False if nothing but blanks is left. */
        private boolean nextToken() {
            while (place < textLength && isBlank(byteHere())) {
                place++;
            }
            if (place >= textLength) {
                return false;
            }
            tokenStart = place;
            int head = byteHere();
            place++;
            if (isLetter(head)) {
                tokenKind = WORD;
                while (place < textLength && isLetter(byteHere())) {
                    place++;
                }
            } else if (isDigit(head)) {
                while (place < textLength && isDigit(byteHere())) {
                    place++;
                }
                tokenKind = tokenLength() <= MOST_DIGITS ? NUMBER : UNKNOWN;
            } else {
                tokenKind = isSign(head) ? head : UNKNOWN;
            }
            return true;
        }

        private void takeToken() {
            if (tokenKind == UNKNOWN) {
                blameToken(NO_TOKEN);
                return;
            }
            switch (awaited) {
                case A_NAME:
                    takeName();
                    break;
                case A_WHEN:
                    takeWhen();
                    break;
                case A_WHAT:
                    takeWhat();
                    break;
                case A_COMPARES:
                    takeCompares();
                    break;
                case A_NUMBER:
                    takeNumber();
                    break;
                default:
                    takeEnd();
                    break;
            }
        }

        private void takeName() {
            if (tokenKind != WORD || tokenLength() > MOST_NAME_LETTERS) {
                blameToken(CANT_STAND);
            } else if (book.isFull()) {
                blameToken(ONE_TOO_MANY);
            } else if (isNameKnown()) {
                blameToken(NAME_TWICE);
            } else {
                keepName();
                book.addRule();
                awaited = A_WHEN;
            }
        }

        private void takeWhen() {
            if (tokenIs("when")) {
                awaited = A_WHAT;
            } else {
                blameToken(CANT_STAND);
            }
        }

        private void takeWhat() {
            int what = tokenWhat();
            if (what == NONE) {
                blameToken(CANT_STAND);
            } else if (book.isLatestRuleFull()) {
                blameToken(ONE_TOO_MANY);
            } else {
                testWhat = what;
                awaited = A_COMPARES;
            }
        }

        private void takeCompares() {
            if (tokenKind == '<' || tokenKind == '>' || tokenKind == '=') {
                testSign = tokenKind;
                awaited = A_NUMBER;
            } else {
                blameToken(CANT_STAND);
            }
        }

        private void takeNumber() {
            if (tokenKind == NUMBER) {
                book.addTest(testWhat, testSign, tokenNumber());
                awaited = AN_END;
            } else {
                blameToken(CANT_STAND);
            }
        }

        private void takeEnd() {
            if (tokenKind == ';') {
                awaited = A_NAME;
            } else if (tokenIs("and")) {
                awaited = A_WHAT;
            } else {
                blameToken(CANT_STAND);
            }
        }

        private void keepName() {
            int rule = book.ruleCount();
            if (rule < RuleBook.MOST_RULES) {
                nameStarts[rule] = tokenStart;
                nameLengths[rule] = tokenLength();
            }
        }

        private boolean isNameKnown() {
            for (int rule = 0; rule < book.ruleCount(); rule++) {
                if (nameLengths[rule] == tokenLength() && isSameText(nameStarts[rule])) {
                    return true;
                }
            }
            return false;
        }

        private boolean isSameText(int start) {
            for (int i = 0; i < tokenLength(); i++) {
                if (text.byteAt(start + i) != text.byteAt(tokenStart + i)) {
                    return false;
                }
            }
            return true;
        }

        private int tokenLength() {
            return place - tokenStart;
        }

        private boolean tokenIs(String word) {
            if (tokenKind != WORD || tokenLength() != word.length()) {
                return false;
            }
            for (int i = 0; i < word.length(); i++) {
                if (text.byteAt(tokenStart + i) != word.charAt(i)) {
                    return false;
                }
            }
            return true;
        }

        private int tokenWhat() {
            for (int what = ASK_FIRST; what <= ASK_RAIN; what++) {
                if (tokenIs(wordFor(what))) {
                    return what;
                }
            }
            return NONE;
        }

        private int tokenNumber() {
            int number = 0;
            for (int i = tokenStart; i < place; i++) {
                number = number * 10 + text.byteAt(i) - '0';
            }
            return number;
        }

        private int byteHere() {
            return text.byteAt(place);
        }

        private static String wordFor(int what) {
            switch (what) {
                case ASK_FIRST:
                    return "first";
                case ASK_SECOND:
                    return "second";
                case ASK_THIRD:
                    return "third";
                case ASK_GRASS:
                    return "grass";
                case ASK_HARD:
                    return "hard";
                case ASK_WEAR:
                    return "wear";
                case ASK_BOUNCE:
                    return "bounce";
                default:
                    return "rain";
            }
        }

        private static boolean isBlank(int here) {
            return here == 10 || here == 32;
        }

        private static boolean isLetter(int here) {
            return within(here, 'a', 'z');
        }

        private static boolean isDigit(int here) {
            return within(here, '0', '9');
        }

        private static boolean isSign(int here) {
            return here == '<' || here == '>' || here == '=' || here == ';';
        }
    }

    /** The matches, their worths, and the best giving of strips to them. */
    private static final class Season {
        private static final int FINAL_RANK = 9;
        private static final int GIVING_STRIPS = 6;
        private static final int SETS = 1 << MOST_MATCHES;
        private static final long UNREACHED = -1;

        // 6 to the power of 7 less the match: see valueOn().
        private static final int[] ORDERS = {279936, 46656, 7776, 1296, 216, 36, 6, 1};
        private static final int ALL_ORDERS = 1679616;

        private final int[] days = new int[MOST_MATCHES];
        private final int[] ranks = new int[MOST_MATCHES];
        private final int[][] worths = new int[MOST_MATCHES][MOST_STRIPS];
        private int count = 0;
        private int rest = 10;
        private int spared = 20;

        // Sets of matches are sums of 1 << match.
        private final boolean[] fits = new boolean[SETS];
        private final long[] gains = new long[SETS];
        private final long[] values = new long[SETS];
        private long bestValue = UNREACHED;
        private int bestForStrips = NONE;

        Season() {
            for (int match = 0; match < MOST_MATCHES; match++) {
                for (int strip = 0; strip < MOST_STRIPS; strip++) {
                    worths[match][strip] = 50;
                }
            }
        }

        boolean hasMatch(int match) {
            return match >= 0 && match < count;
        }

        boolean isFull() {
            return count >= MOST_MATCHES;
        }

        boolean isTaken(int day) {
            for (int match = 0; match < count; match++) {
                if (days[match] == day) {
                    return true;
                }
            }
            return false;
        }

        int addMatch(int day, int rank) {
            if (isFull()) {
                return NONE;
            }
            days[count] = day;
            ranks[count] = rank;
            count++;
            forgetBest();
            return count - 1;
        }

        void setWorth(int match, int strip, int worth) {
            if (hasMatch(match) && within(strip, 0, MOST_STRIPS - 1)) {
                worths[match][strip] = worth;
                forgetBest();
            }
        }

        void setRests(int newRest, int newSpared) {
            rest = newRest;
            spared = newSpared;
            forgetBest();
        }

        int bestWorth(int strips) {
            findBest(strips);
            return bestValue == UNREACHED ? NONE : (int) (bestValue / ALL_ORDERS);
        }

        int bestStrip(int match, int strips) {
            findBest(strips);
            if (bestValue == UNREACHED || !hasMatch(match)) {
                return NONE;
            }
            // ORDERS has no 0, but the divisor is looked at all the same.
            int order = Math.max(1, ORDERS[match]);
            return GIVING_STRIPS - 1 - (int) (bestValue / order % GIVING_STRIPS);
        }

        private void forgetBest() {
            bestForStrips = NONE;
        }

        /** Strip by strip, the best value of each set of matches that is given away so far. */
        private void findBest(int strips) {
            if (bestForStrips == strips) {
                return;
            }
            int all = (1 << count) - 1;
            for (int set = 0; set <= all; set++) {
                fits[set] = fitsOneStrip(set);
                values[set] = set == 0 ? 0 : UNREACHED;
            }
            for (int strip = 0; strip < Math.min(strips, GIVING_STRIPS); strip++) {
                addUpGains(strip);
                // A set is made of lesser ones, which must not have this strip yet: downwards.
                for (int set = all; set > 0; set--) {
                    values[set] = bestWithStrip(set);
                }
            }
            bestValue = values[all];
            bestForStrips = strips;
        }

        /** The strip takes some part of the set, or nothing; those ahead have taken the others. */
        private long bestWithStrip(int set) {
            long best = values[set];
            int part = set;
            for (int turn = 0; turn < SETS && part > 0; turn++) {
                long others = values[set & ~part];
                if (fits[part] && others != UNREACHED) {
                    best = Math.max(best, others + gains[part]);
                }
                part = (part - 1) & set;
            }
            return best;
        }

        private void addUpGains(int strip) {
            gains[0] = 0;
            for (int match = 0; match < count; match++) {
                int alone = 1 << match;
                for (int lesser = 0; lesser < alone; lesser++) {
                    gains[alone + lesser] = gains[lesser] + valueOn(match, strip);
                }
            }
        }

        /**
         * Worth comes first; below it each match has a digit to the base of six, the higher the
         * lesser the strip, the first match's in front. So the greatest sum is the best giving,
         * the first one of several, and its strips can be told from the sum's digits.
         */
        private long valueOn(int match, int strip) {
            long worth = worths[match][strip];
            return worth * ALL_ORDERS + (long) (GIVING_STRIPS - 1 - strip) * ORDERS[match];
        }

        private boolean fitsOneStrip(int set) {
            for (int one = 0; one < count; one++) {
                for (int other = 0; other < one; other++) {
                    boolean both = (set >> one & 1) == 1 && (set >> other & 1) == 1;
                    if (both && !canShare(one, other)) {
                        return false;
                    }
                }
            }
            return true;
        }

        private boolean canShare(int one, int other) {
            int later = days[one] > days[other] ? one : other;
            int apart = Math.abs(days[one] - days[other]);
            return apart >= rest && (ranks[later] != FINAL_RANK || apart > spared);
        }
    }

    /** The captains' marks, summed by match and result. */
    private static final class Marks {
        private static final int MOST = 100;

        private final int[][] counts = new int[MOST_MATCHES][RESULTS];
        private final int[][] sums = new int[MOST_MATCHES][RESULTS];
        private final long[] resultCounts = new long[RESULTS];
        private final long[] resultSums = new long[RESULTS];
        private long allCount = 0;
        private long allSum = 0;

        boolean isFull() {
            return allCount >= MOST;
        }

        void add(int match, int result, int mark) {
            if (within(match, 0, MOST_MATCHES - 1) && within(result, 0, RESULTS - 1)) {
                counts[match][result]++;
                sums[match][result] += mark;
                resultCounts[result]++;
                resultSums[result] += mark;
                allCount++;
                allSum += mark;
            }
        }

        void partInto(Fraction fraction, int result) {
            if (!within(result, 0, RESULTS - 1) || resultCounts[result] == 0) {
                fraction.become(0, 1);
                return;
            }
            long many = resultCounts[result];
            fraction.become(resultSums[result] * allCount - allSum * many, many * allCount);
        }

        /** False, and the fraction stays, if the match has no marks. */
        boolean fairInto(Fraction fraction, int match) {
            if (!within(match, 0, MOST_MATCHES - 1)) {
                return false;
            }
            long under = allCount;
            for (int result = 0; result < RESULTS; result++) {
                under *= Math.max(1, resultCounts[result]);
            }
            long many = 0;
            long over = 0;
            for (int result = 0; result < RESULTS; result++) {
                many += counts[match][result];
                over += sums[match][result] * under - partsOver(match, result, under);
            }
            if (many == 0) {
                return false;
            }
            fraction.become(over, under * many);
            return true;
        }

        /** The part of a result, once for each mark of the match by it, times a lower number. */
        private long partsOver(int match, int result, long under) {
            long many = resultCounts[result];
            if (many == 0 || allCount == 0) {
                return 0;
            }
            long part = resultSums[result] * (under / many) - allSum * (under / allCount);
            return counts[match][result] * part;
        }
    }
}
