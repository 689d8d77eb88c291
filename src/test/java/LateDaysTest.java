/**
 * The last of the days. Day 999 is 999 steps away, and an object is used for 512 calls; what is
 * asked here stands behind them, where the document leaves every answer free. So these tests are of
 * this class alone: another one could fail them and still keep all promises. No other test asks for
 * an answer behind an object's 512th call.
 */
public final class LateDaysTest {
    private static final Edge EDGE = new Edge();

    public static void main(String[] args) {
        todayIsLast();
        todayAndDaysAboveLast();
        todayAndSoManyAboveLast();
        soManyAheadOfNone();
        EDGE.end();
    }

    private static Edge.Lead onDay(int day) {
        return Leads.both(Leads::square, x -> Check.goTo(x, day));
    }

    private static void todayIsLast() {
        EDGE.of("Promise 9", "6: today is 999");
        EDGE.due("step() on day 998", Edge.led(onDay(998)).step(), 999);
        EDGE.taken(onDay(998), "step() on day 998", PitchSquare::step, Edge.NONE);
        // A state that a step would change, and balls that a step would forget.
        Edge.Lead last = Leads.both(onDay(999), x -> {
            x.set(0, 55, 40, 40, 10, 50, 0);
            x.play(0, 400);
        });
        EDGE.refused(last, "step() on day 999", PitchSquare::step, Edge.NONE, 6);
        PitchSquare x = Edge.led(last);
        x.step();
        EDGE.due("day()", x.day(), 999);
        EDGE.state("step() on day 999", x, 0, 55, 40, 40, 10, 50, 0);
        EDGE.due("play(0, 601)", Edge.number(x.play(0, 601)), 0);
        EDGE.due("play(0, 600)", Edge.number(x.play(0, 600)), 1);
        EDGE.yes("weather(999, ..)", x.weather(999, 1, 1, true));
    }

    private static void todayAndDaysAboveLast() {
        EDGE.of("Promise 13", "6: today and n are above 999");
        for (int n : new int[] {1, 6}) {
            String plan = "plan of " + n + " from ";
            Edge.Call made = x -> x.plan(0, n, 1, 1);
            EDGE.taken(onDay(998 - n), plan + (998 - n), made, Edge.NONE);
            EDGE.taken(onDay(999 - n), plan + (999 - n), made, Edge.NONE);
            EDGE.refused(onDay(1000 - n), plan + (1000 - n), made, Edge.NONE, 6);
        }
        EDGE.refused(onDay(999), "plan of 7 from 999", x -> x.plan(0, 7, 1, 1), Edge.NONE, 2);
    }

    private static void todayAndSoManyAboveLast() {
        EDGE.of("Promise 19", "6: today and so many are above 999");
        for (int many : new int[] {1, 60}) {
            String when = "when of " + many + " from ";
            Edge.Call made = x -> x.when(2, 2, many);
            EDGE.taken(onDay(998 - many), when + (998 - many), made, Edge.NONE);
            EDGE.taken(onDay(999 - many), when + (999 - many), made, Edge.NONE);
            EDGE.refused(onDay(1000 - many), when + (1000 - many), made, Edge.NONE, 6);
        }
        EDGE.refused(onDay(999), "when of 61 from 999", x -> x.when(2, 2, 61), Edge.NONE, 2);
    }

    /** Promise 19 lists 6 ahead of 5: where both hold, 6 is told. */
    private static void soManyAheadOfNone() {
        EDGE.of("Promise 19", "6: today and so many are above 999; 5: on none");
        Edge.Lead none = Leads.both(onDay(998), x -> {
            x.rules(0);
            Texts.read(x, "a when hard=101;");
        });
        EDGE.refused(none, "when of 1 from 998, on none", x -> x.when(0, 0, 1), Edge.NONE, 5);
        EDGE.refused(none, "when of 2 from 998, on none", x -> x.when(0, 0, 2), Edge.NONE, 6);
    }
}
