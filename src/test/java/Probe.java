import java.util.ArrayList;
import java.util.List;

/**
 * Ways to look at an object from outside. Many of them change it, so each has an object of its own;
 * and each is short enough that the calls ahead of it and its own are 512 at most.
 */
enum Probe {
    SILENT, STRIPS, PLANNED, RATINGS, FORETOLD, TODAY, TAPE, READS, MEASURES_LEFT, GIVING, RESTS,
    MARKS, MARKS_LEFT, FRACTION_TOLD;

    private static final int BLANKS = 0x20202020;

    /** All answers in their order. */
    long[] answers(PitchSquare x) {
        List<Long> found = new ArrayList<>();
        switch (this) {
            case SILENT -> silent(x, found);
            case STRIPS -> strips(x, found);
            case PLANNED -> planned(x, found);
            case RATINGS -> ratings(x, found);
            case FORETOLD -> foretold(x, found);
            case TODAY -> today(x, found);
            case TAPE -> tape(x, found);
            case READS -> reads(x, found);
            case MEASURES_LEFT -> measuresLeft(x, found);
            case GIVING -> giving(x, found);
            case RESTS -> rests(x, found);
            case MARKS -> marks(x, found);
            case MARKS_LEFT -> marksLeft(x, found);
            default -> fractionTold(x, found);
        }
        return found.stream().mapToLong(Long::longValue).toArray();
    }

    /** What the calls without a status tell. */
    private static void silent(PitchSquare x, List<Long> found) {
        found.add(x.upper());
        found.add(x.lower());
        for (int what = -1; what < 3; what++) {
            found.add((long) x.fault(what));
        }
        found.add((long) x.feed(BLANKS, BLANKS, BLANKS, BLANKS, BLANKS));
    }

    private static void allTold(PitchSquare x, List<Long> found) {
        for (int strip = 0; strip < 8; strip++) {
            for (int what = 0; what < 7; what++) {
                found.add((long) x.told(strip, what));
            }
        }
    }

    private static void strips(PitchSquare x, List<Long> found) {
        found.add((long) x.day());
        allTold(x, found);
        found.add((long) x.strip());
        found.add((long) x.match(777, 0));
    }

    private static void planned(PitchSquare x, List<Long> found) {
        for (int k = -1; k < 7; k++) {
            found.add((long) x.planned(k));
        }
    }

    private static void ratings(PitchSquare x, List<Long> found) {
        for (int strip = 0; strip < 8; strip++) {
            found.add((long) x.rate(strip));
        }
        for (int rule = 0; rule < 8; rule++) {
            found.add((long) x.when(0, rule, 60));
        }
    }

    private static void foretold(PitchSquare x, List<Long> found) {
        found.add((long) x.plan(0, 6, 2, 3));
        planned(x, found);
        found.add((long) x.plan(0, 4, 0, 0));
        found.add((long) x.plan(1, 1, 0, 0));
    }

    /** Works and balls told for today, and weather that came, show only behind a step. */
    private static void today(PitchSquare x, List<Long> found) {
        found.add((long) x.step());
        allTold(x, found);
        found.add((long) x.step());
        allTold(x, found);
    }

    private static void tape(PitchSquare x, List<Long> found) {
        int size = x.feed(BLANKS, BLANKS, BLANKS, BLANKS, BLANKS);
        found.add((long) size);
        found.add((long) x.rules(size == PitchSquare.NONE ? 400 : size));
        found.add((long) x.fault(0));
        found.add((long) x.fault(1));
        ratings(x, found);
    }

    private static void fraction(PitchSquare x, boolean answer, List<Long> found) {
        found.add(answer ? 1L : 0L);
        found.add(x.upper());
        found.add(x.lower());
    }

    private static void reads(PitchSquare x, List<Long> found) {
        for (int strip = 0; strip < 8; strip++) {
            for (int day = 0; day < 3; day++) {
                fraction(x, x.reads(strip, day), found);
            }
        }
        fraction(x, x.reads(0, 999), found);
    }

    private static void measuresLeft(PitchSquare x, List<Long> found) {
        long left = 0;
        while (left < 201 && x.measure(0, 5, 50)) {
            left++;
        }
        found.add(left);
    }

    private static void giving(PitchSquare x, List<Long> found) {
        found.add((long) x.give());
        for (int match = 0; match < 8; match++) {
            found.add((long) x.given(match));
        }
    }

    /** More matches, close together and with finals among them, until rests can't be kept. */
    private static void rests(PitchSquare x, List<Long> found) {
        int[] days = {300, 309, 320, 339, 351, 368, 380, 400};
        for (int i = 0; i < days.length; i++) {
            found.add((long) x.match(days[i], i % 2 == 0 ? 0 : 9));
            found.add((long) x.give());
            found.add((long) x.given(i));
        }
    }

    private static void marks(PitchSquare x, List<Long> found) {
        for (int result = 0; result < 3; result++) {
            fraction(x, x.part(result), found);
        }
        for (int match = 0; match < 8; match++) {
            fraction(x, x.fair(match), found);
        }
    }

    private static void marksLeft(PitchSquare x, List<Long> found) {
        long left = 0;
        while (left < 101 && x.mark(0, 0, 5)) {
            left++;
        }
        found.add(left);
    }

    /** The fraction also behind calls that have a status and tell none. */
    private static void fractionTold(PitchSquare x, List<Long> found) {
        x.day();
        x.told(0, 0);
        found.add(x.upper());
        found.add(x.lower());
    }
}
