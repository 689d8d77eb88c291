/** Boundaries of part 5 and promise 2, and the number of calls of 'What it is'. */
public final class StatusEdgesTest {
    private static final Edge EDGE = new Edge();
    private static final String P2 = "Promise 2";
    private static final String FIRST = "Terms 5";
    private static final String WHAT_IT_IS = "What it is";
    private static final int BAD = Integer.MAX_VALUE;

    public static void main(String[] args) {
        everyStatus();
        callsWithout();
        callsWith();
        refusedIntCalls();
        refusedBooleanCalls();
        oneBeforeTwo();
        oneBeforeOthers();
        twoBeforeThree();
        twoBeforeFour();
        twoBeforeFive();
        twoBeforeSevenAndEight();
        threeBeforeSeven();
        fiveHundredAndTwelveSteps();
        fiveHundredAndTwelveMixed();
        EDGE.end();
    }

    private static void leave(PitchSquare x, int status) {
        switch (status) {
            case 1 -> x.told(-1, 0);
            case 2 -> x.told(0, 7);
            case 3 -> {
                Leads.addStrips(x, 8);
            }
            case 4 -> x.weather(0, 0, 0, true);
            case 5 -> x.reads(0, 999);
            case 6 -> {
                x.rests(60, 100);
                x.give();
            }
            case 7 -> x.match(30, 0);
            case 8 -> Texts.read(x, "!");
            default -> x.day();
        }
    }

    private static Edge.Lead left(int status) {
        return Leads.both(Leads::square, x -> {
            x.rules(0);
            x.match(31, 0);
            x.match(32, 0);
            leave(x, status);
        });
    }

    private static void everyStatus() {
        EDGE.of(P2, "The STATUS of the latest call that has one");
        for (int status = 0; status <= 8; status++) {
            PitchSquare x = Edge.led(left(status));
            EDGE.due("status()", x.status(), status);
            EDGE.due("status() again", x.status(), status);
            x.day();
            EDGE.due("status() behind day()", x.status(), 0);
        }
    }

    private static void callsWithout() {
        EDGE.of(FIRST, "status(), upper(), lower(), fault(), feed() have none");
        for (int status = 0; status <= 8; status++) {
            PitchSquare x = Edge.led(left(status));
            x.upper();
            EDGE.due("status() behind upper()", x.status(), status);
            x.lower();
            EDGE.due("status() behind lower()", x.status(), status);
            for (int what = -1; what < 3; what++) {
                x.fault(what);
                EDGE.due("status() behind fault(" + what + ")", x.status(), status);
            }
            for (int i = 1; i <= 21; i++) {
                int size = x.feed(0, 0, 0, 0, 0);
                EDGE.due("feed()", size, i < 21 ? 20 * i : Edge.NONE);
                EDGE.due("status() behind feed()", x.status(), status);
            }
        }
    }

    private static void sets(String call, Edge.Call made) {
        PitchSquare x = Edge.led(Leads.both(Leads::square, y -> y.told(-1, 0)));
        EDGE.due("status() ahead of " + call, x.status(), 1);
        long answer = made.on(x);
        EDGE.yes(call + " is taken", answer >= 0);
        EDGE.due("status() behind " + call, x.status(), 0);
    }

    /** The other 23 calls have one, and where nothing is wrong it is 0. */
    private static void callsWith() {
        EDGE.of(FIRST, "0 else");
        sets("strip()", PitchSquare::strip);
        sets("set()", x -> Edge.number(x.set(0, 0, 0, 0, 0, 0, 0)));
        sets("told()", x -> x.told(0, 0));
        sets("weather()", x -> Edge.number(x.weather(1, 0, 0, true)));
        sets("work()", x -> Edge.number(x.work(0, 0)));
        sets("play()", x -> Edge.number(x.play(0, 0)));
        sets("step()", PitchSquare::step);
        sets("day()", PitchSquare::day);
        sets("measure()", x -> Edge.number(x.measure(0, 0, 0)));
        sets("reads()", x -> Edge.number(x.reads(0, 0)));
        sets("plan()", x -> x.plan(0, 1, 0, 0));
        sets("planned()", x -> x.planned(0));
        sets("rules()", x -> x.rules(17));
        sets("rate()", x -> x.rate(2));
        sets("when()", x -> x.when(2, 2, 1));
        sets("match()", x -> x.match(0, 0));
        sets("worth()", x -> Edge.number(x.worth(0, 0, 0)));
        sets("rests()", x -> Edge.number(x.rests(0, 0)));
        sets("give()", PitchSquare::give);
        sets("given()", x -> x.given(0));
        sets("mark()", x -> Edge.number(x.mark(0, 0, 0)));
        sets("part()", x -> Edge.number(x.part(0)));
        sets("fair()", x -> Edge.number(x.fair(0)));
    }

    private static void no(Edge.Lead lead, String call, Edge.Call made, int status) {
        EDGE.refused(lead, call, made, Edge.NO, status);
    }

    private static void none(Edge.Lead lead, String call, Edge.Call made, int status) {
        EDGE.refused(lead, call, made, Edge.NONE, status);
    }

    private static final String CHANGES_NOTHING =
            "gives NONE, or false, and changes nothing but STATUS";

    private static void crowded(PitchSquare x) {
        Leads.square(x);
        for (int match = 0; match < 4; match++) {
            x.match(100 + match, 0);
        }
    }

    private static void unrated(PitchSquare x) {
        Leads.square(x);
        x.rules(0);
        Texts.read(x, "a when wear>100;b when rain>100;");
    }

    /** Each status that a promise lists, but for those that 512 calls do not reach, and 8. */
    private static void refusedIntCalls() {
        EDGE.of(FIRST, CHANGES_NOTHING, "NONE");
        none(Leads::full, "strip: 3", PitchSquare::strip, 3);
        none(Leads::square, "told: 1", x -> x.told(3, 0), 1);
        none(Leads::square, "told: 2", x -> x.told(0, 7), 2);
        none(Leads::square, "plan: 1", x -> x.plan(3, 1, 1, 1), 1);
        none(Leads::square, "plan: 2", x -> x.plan(0, 7, 1, 1), 2);
        none(Leads::square, "planned: 5", x -> x.planned(3), 5);
        none(Leads::square, "rules: 2", x -> x.rules(21), 2);
        none(Leads::square, "rate: 1", x -> x.rate(3), 1);
        none(StatusEdgesTest::unrated, "rate: 5", x -> x.rate(0), 5);
        none(Leads::square, "when: 1", x -> x.when(3, 0, 1), 1);
        none(Leads::square, "when: 2", x -> x.when(0, 3, 1), 2);
        none(Leads::square, "when: 5", x -> x.when(0, 0, 1), 5);
        none(Leads::square, "match: 2", x -> x.match(1000, 0), 2);
        none(Leads::full, "match: 3", x -> x.match(999, 0), 3);
        none(Leads::square, "match: 7", x -> x.match(30, 0), 7);
        none(StatusEdgesTest::crowded, "give: 6", PitchSquare::give, 6);
        none(StatusEdgesTest::crowded, "given: 1", x -> x.given(7), 1);
        none(StatusEdgesTest::crowded, "given: 6", x -> x.given(0), 6);
    }

    private static void refusedBooleanCalls() {
        EDGE.of(FIRST, CHANGES_NOTHING, "false");
        no(Leads::square, "set: 1", x -> Edge.number(x.set(3, 0, 0, 0, 0, 0, 0)), 1);
        no(Leads::square, "set: 2", x -> Edge.number(x.set(0, 0, 0, 0, 0, 0, 101)), 2);
        no(Leads::square, "weather: 2", x -> Edge.number(x.weather(1, 0, 21, true)), 2);
        no(Leads::square, "weather: 4", x -> Edge.number(x.weather(0, 0, 0, true)), 4);
        no(Leads::square, "work: 1", x -> Edge.number(x.work(3, 0)), 1);
        no(Leads::square, "work: 2", x -> Edge.number(x.work(0, 32)), 2);
        no(Leads::square, "play: 1", x -> Edge.number(x.play(3, 1)), 1);
        no(Leads::square, "play: 2", x -> Edge.number(x.play(0, 601)), 2);
        no(Leads::square, "measure: 1", x -> Edge.number(x.measure(3, 0, 0)), 1);
        no(Leads::square, "measure: 2", x -> Edge.number(x.measure(0, 0, 101)), 2);
        no(Leads::full, "measure: 3", x -> Edge.number(x.measure(0, 0, 0)), 3);
        no(Leads::square, "reads: 1", x -> Edge.number(x.reads(3, 0)), 1);
        no(Leads::square, "reads: 2", x -> Edge.number(x.reads(0, 1000)), 2);
        no(Leads::square, "reads: 5", x -> Edge.number(x.reads(0, 2)), 5);
        no(Leads::square, "worth: 1", x -> Edge.number(x.worth(3, 0, 0)), 1);
        no(Leads::square, "worth: 2", x -> Edge.number(x.worth(0, 0, 101)), 2);
        no(Leads::square, "rests: 2", x -> Edge.number(x.rests(0, 101)), 2);
        no(Leads::square, "mark: 1", x -> Edge.number(x.mark(3, 0, 0)), 1);
        no(Leads::square, "mark: 2", x -> Edge.number(x.mark(0, 0, 11)), 2);
        no(Leads::full, "mark: 3", x -> Edge.number(x.mark(0, 0, 0)), 3);
        no(Leads::square, "part: 2", x -> Edge.number(x.part(3)), 2);
        no(Leads::square, "fair: 1", x -> Edge.number(x.fair(3)), 1);
        no(StatusEdgesTest::crowded, "fair: 5", x -> Edge.number(x.fair(3)), 5);
    }

    /** Each call that can have both, with no such strip or match and numbers that can't be. */
    private static void oneBeforeTwo() {
        EDGE.of(FIRST, "the first of these that holds", "1 ahead of 2");
        for (int no : new int[] {-1, 3}) {
            no(Leads::square, "set", x -> Edge.number(x.set(no, BAD, BAD, BAD, BAD, BAD, BAD)), 1);
            none(Leads::square, "told", x -> x.told(no, BAD), 1);
            no(Leads::square, "work", x -> Edge.number(x.work(no, BAD)), 1);
            no(Leads::square, "play", x -> Edge.number(x.play(no, BAD)), 1);
            no(Leads::square, "measure", x -> Edge.number(x.measure(no, BAD, BAD)), 1);
            no(Leads::square, "reads", x -> Edge.number(x.reads(no, BAD)), 1);
            none(Leads::square, "plan", x -> x.plan(no, BAD, BAD, BAD), 1);
            none(Leads::square, "when", x -> x.when(no, BAD, BAD), 1);
            no(Leads::square, "worth of no match", x -> Edge.number(x.worth(no, 0, BAD)), 1);
            no(Leads::square, "worth of no strip", x -> Edge.number(x.worth(0, no, BAD)), 1);
            no(Leads::square, "worth of neither", x -> Edge.number(x.worth(no, no, BAD)), 1);
            no(Leads::square, "mark", x -> Edge.number(x.mark(no, BAD, BAD)), 1);
        }
    }

    private static void oneBeforeOthers() {
        EDGE.of(FIRST, "the first of these that holds", "1 ahead of 3, 5, 6");
        no(Leads::full, "measure: 1 and 3", x -> Edge.number(x.measure(8, 0, 0)), 1);
        no(Leads::full, "measure: 1, 2 and 3", x -> Edge.number(x.measure(8, BAD, 0)), 1);
        no(Leads::full, "mark: 1 and 3", x -> Edge.number(x.mark(8, 0, 0)), 1);
        no(Leads::full, "mark: 1, 2 and 3", x -> Edge.number(x.mark(8, 3, 0)), 1);
        no(Leads.strips(1), "reads: 1 and 5", x -> Edge.number(x.reads(1, 0)), 1);
        none(Leads.strips(1), "rate: 1 and 5", x -> x.rate(1), 1);
        Edge.Lead rule = Leads.both(Leads.strips(1), x -> Texts.read(x, "a when wear=1;"));
        none(rule, "when: 1 and 5", x -> x.when(1, 0, 1), 1);
        no(Leads.matches(1), "fair: 1 and 5", x -> Edge.number(x.fair(1)), 1);
        none(Leads.matches(1), "given: 1 and 6", x -> x.given(1), 1);
        none(Leads.matches(1), "given: 6 alone", x -> x.given(0), 6);
    }

    private static void twoBeforeThree() {
        EDGE.of(FIRST, "the first of these that holds", "2 ahead of 3");
        no(Leads::full, "measure day", x -> Edge.number(x.measure(0, 1000, 0)), 2);
        no(Leads::full, "measure number", x -> Edge.number(x.measure(0, 0, 101)), 2);
        no(Leads::full, "measure: 3 alone", x -> Edge.number(x.measure(0, 0, 100)), 3);
        none(Leads::full, "match day", x -> x.match(1000, 0), 2);
        none(Leads::full, "match rank", x -> x.match(999, 10), 2);
        none(Leads::full, "match: 3 alone", x -> x.match(999, 9), 3);
        no(Leads::full, "mark result", x -> Edge.number(x.mark(0, 3, 0)), 2);
        no(Leads::full, "mark number", x -> Edge.number(x.mark(0, 0, 11)), 2);
        no(Leads::full, "mark: 3 alone", x -> Edge.number(x.mark(0, 0, 10)), 3);
    }

    private static void twoBeforeFour() {
        EDGE.of(FIRST, "the first of these that holds", "2 ahead of 4");
        for (boolean came : new boolean[] {false, true}) {
            no(Leads::square, "weather day -1", x -> Edge.number(x.weather(-1, 0, 0, came)), 2);
            no(Leads::square, "weather rain", x -> Edge.number(x.weather(0, 101, 0, came)), 2);
            no(Leads::square, "weather sun", x -> Edge.number(x.weather(0, 0, 21, came)), 2);
            no(Leads::square, "weather: 4 alone", x -> Edge.number(x.weather(0, 100, 20, came)), 4);
        }
    }

    private static void twoBeforeFive() {
        EDGE.of(FIRST, "the first of these that holds", "2 ahead of 5");
        no(Leads.strips(1), "reads", x -> Edge.number(x.reads(0, 1000)), 2);
        no(Leads.strips(1), "reads: 5 alone", x -> Edge.number(x.reads(0, 999)), 5);
        Edge.Lead rule = Leads.both(Leads.strips(1), x -> Texts.read(x, "a when wear=1;"));
        none(rule, "when rule", x -> x.when(0, 1, 1), 2);
        none(rule, "when many", x -> x.when(0, 0, 61), 2);
        none(rule, "when: 5 alone", x -> x.when(0, 0, 60), 5);
    }

    private static void twoBeforeSevenAndEight() {
        EDGE.of(FIRST, "the first of these that holds", "2 ahead of 7 and of 8");
        none(Leads::square, "match rank", x -> x.match(30, 10), 2);
        none(Leads::square, "match: 7 alone", x -> x.match(30, 9), 7);
        Edge.Lead faulty = Leads.both(Leads::square, x -> Texts.feed(x, "!"));
        none(faulty, "rules(41)", x -> x.rules(41), 2);
        PitchSquare x = Edge.led(faulty);
        EDGE.due("rules(40)", x.rules(40), Edge.NONE);
        EDGE.due("status(): 8 alone", x.status(), 8);
    }

    private static void threeBeforeSeven() {
        EDGE.of(FIRST, "the first of these that holds", "3 ahead of 7");
        for (int match = 0; match < 8; match++) {
            int day = 30 * match;
            none(Leads::full, "match(" + day + ", 0)", x -> x.match(day, 0), 3);
        }
        none(Leads.matches(7), "match(0, 0): 7 alone", x -> x.match(0, 0), 7);
    }

    private static void fiveHundredAndTwelveSteps() {
        EDGE.of(WHAT_IT_IS, "An object is used for at most 512 calls after it has been made", "steps");
        PitchSquare x = new PitchSquare();
        for (int call = 1; call <= 512; call++) {
            EDGE.due("step() as call " + call, x.step(), call);
        }
        // What comes behind is free, but no call may ever throw.
        callEverything(x);
    }

    /** 510 calls that fill the object up; the 511th and the 512th are answered as any. */
    private static void fiveHundredAndTwelveMixed() {
        EDGE.of(WHAT_IT_IS, "An object is used for at most 512 calls after it has been made", "all");
        for (int last = 0; last < 4; last++) {
            PitchSquare x = Edge.led(Leads::full);
            EDGE.due("rules(400)", x.rules(400), 8);
            EDGE.yes("weather()", x.weather(0, 0, 0, false));
            for (int call = Leads.CALLS_OF_FULL + 3; call <= 510; call++) {
                x.set(call % 8, 40, 60, 100, 0, call % 2 == 0 ? 50 : 30, 0);
            }
            switch (last) {
                case 0 -> {
                    EDGE.due("give() as call 511", x.give(), 410);
                    EDGE.due("given(7) as call 512", x.given(7), 5);
                }
                case 1 -> {
                    EDGE.due("match() as call 511", x.match(999, 0), Edge.NONE);
                    EDGE.due("status() as call 512", x.status(), 3);
                }
                case 2 -> {
                    EDGE.due("plan() as call 511", x.plan(0, 3, 6, 6), 68);
                    EDGE.due("planned(2) as call 512", x.planned(2), 2);
                }
                default -> {
                    EDGE.due("feed() as call 511", x.feed(0, 0, 0, 0, 0), 20);
                    EDGE.due("rate(7) as call 512", x.rate(7), 0);
                }
            }
            callEverything(x);
        }
    }

    private static void callEverything(PitchSquare x) {
        for (int n : new int[] {Integer.MIN_VALUE, -1, 0, 1, 7, 8, 400, BAD}) {
            x.strip();
            x.set(n, n, n, n, n, n, n);
            x.told(n, n);
            x.weather(n, n, n, true);
            x.weather(n, n, n, false);
            x.work(n, n);
            x.play(n, n);
            x.step();
            x.measure(n, n, n);
            x.reads(n, n);
            x.plan(n, n, n, n);
            x.planned(n);
            x.feed(n, n, n, n, n);
            x.rules(n);
            x.fault(n);
            x.rate(n);
            x.when(n, n, n);
            x.match(n, n);
            x.worth(n, n, n);
            x.rests(n, n);
            x.give();
            x.given(n);
            x.mark(n, n, n);
            x.part(n);
            x.fair(n);
            x.upper();
            x.lower();
        }
    }
}
