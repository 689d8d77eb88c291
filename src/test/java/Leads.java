/** Calls that lead a new object up to a state in which boundaries can be tried. */
final class Leads {
    private Leads() {
    }

    static void nothing(PitchSquare x) {
    }

    static Edge.Lead strips(int many) {
        return x -> addStrips(x, many);
    }

    static Edge.Lead matches(int many) {
        return x -> addMatches(x, many);
    }

    static Edge.Lead both(Edge.Lead first, Edge.Lead second) {
        return x -> {
            first.on(x);
            second.on(x);
        };
    }

    static void addStrips(PitchSquare x, int many) {
        for (int i = 0; i < many; i++) {
            x.strip();
        }
    }

    /** On days 0, 30, 60 and so on, none of them a final. */
    static void addMatches(PitchSquare x, int many) {
        for (int i = 0; i < many; i++) {
            x.match(30 * i, 0);
        }
    }

    /**
     * Day 1 of a square with something of everything: three strips, three matches, three rules, and
     * twenty bytes on the tape. The latest status is 0, the fraction 25 by 4.
     */
    static void square(PitchSquare x) {
        addStrips(x, 3);
        x.set(0, 55, 40, 40, 10, 50, 0);
        x.set(1, 30, 60, 20, 30, 70, 40);
        x.weather(1, 35, 6, false);
        x.weather(2, 60, 2, false);
        x.weather(4, 5, 20, false);
        x.weather(0, 10, 3, true);
        x.weather(1, 20, 4, true);
        x.weather(2, 9, 9, true);
        x.step();
        x.work(0, 2 + 8);
        x.work(1, 16);
        x.play(0, 400);
        x.measure(0, 0, 40);
        x.measure(0, 0, 51);
        x.measure(2, 0, 70);
        x.measure(1, 1, 33);
        x.plan(0, 3, 1, 2);
        Texts.read(x, "soft when first>60;good when hard>40 and rain<50;rest when wear<101;");
        Texts.feed(x, "late when hard>1;");
        x.match(30, 0);
        x.match(45, 9);
        x.match(60, 3);
        x.worth(0, 1, 70);
        x.rests(12, 18);
        x.mark(0, 0, 8);
        x.mark(0, 1, 3);
        x.mark(1, 2, 6);
        x.mark(2, 0, 7);
        x.fair(0);
    }

    /** So many calls are made by {@link #full}. */
    static final int CALLS_OF_FULL = 365;

    /** As many as can be of strips, matches, measures, marks, and bytes on the tape. */
    static void full(PitchSquare x) {
        addStrips(x, 8);
        addMatches(x, 8);
        for (int i = 0; i < 200; i++) {
            x.measure(i % 3, i % 2, i % 101);
        }
        for (int i = 0; i < 100; i++) {
            x.mark(i % 5, i % 3, i % 11);
        }
        for (int strip = 0; strip < 8; strip++) {
            x.set(strip, 30 + strip, 50, 60 - strip, 10 + strip, 40 + 5 * strip, 3 * strip);
            x.work(strip, 3 * strip + 2);
            x.play(strip, 40 * strip);
        }
        x.weather(0, 25, 7, true);
        x.weather(0, 15, 3, false);
        x.worth(7, 5, 60);
        x.plan(7, 4, 2, 2);
        x.fair(3);
        Texts.feed(x, Texts.EIGHT_RULES + " ".repeat(288));
    }
}
