/** Promises 11 and 12: measure, reads. */
public final class MeasuresTest {
    private static final Check CHECK = new Check();

    public static void main(String[] args) {
        refusals();
        ownMean();
        neighbours();
        fractionStays();
        twoHundred();
        CHECK.end();
    }

    private static void refusals() {
        PitchSquare x = Check.withStrips(1);
        CHECK.refused(x, "measure(1, ..)", x.measure(1, -1, 0), 1);
        CHECK.refused(x, "measure(-1, ..)", x.measure(-1, 0, 0), 1);
        CHECK.refused(x, "measure day -1", x.measure(0, -1, 0), 2);
        CHECK.refused(x, "measure day 1000", x.measure(0, 1000, 0), 2);
        CHECK.refused(x, "measure -1", x.measure(0, 0, -1), 2);
        CHECK.refused(x, "measure 101", x.measure(0, 0, 101), 2);
        CHECK.refused(x, "reads(1, -1)", x.reads(1, -1), 1);
        CHECK.refused(x, "reads(-1, 0)", x.reads(-1, 0), 1);
        CHECK.refused(x, "reads(0, -1)", x.reads(0, -1), 2);
        CHECK.refused(x, "reads(0, 1000)", x.reads(0, 1000), 2);
        CHECK.refused(x, "reads(0, 0)", x.reads(0, 0), 5);
    }

    private static void ownMean() {
        PitchSquare x = Check.withStrips(3);
        x.measure(1, 999, 10);
        x.measure(1, 999, 11);
        x.measure(1, 999, 11);
        x.measure(0, 999, 100);
        x.measure(2, 999, 100);
        x.measure(1, 998, 90);
        CHECK.yes("reads(1, 999)", x.reads(1, 999));
        CHECK.fraction(x, "reads(1, 999)", 32, 3);
        x.measure(0, 0, 0);
        CHECK.yes("reads(0, 0)", x.reads(0, 0));
        CHECK.fraction(x, "reads(0, 0)", 0, 1);
        // A day that is gone may be measured and read.
        x.step();
        CHECK.yes("measure(0, 0, 1)", x.measure(0, 0, 1));
        CHECK.yes("reads(0, 0)", x.reads(0, 0));
        CHECK.fraction(x, "reads(0, 0)", 1, 2);
    }

    private static void neighbours() {
        PitchSquare x = Check.withStrips(8);
        x.measure(0, 3, 10);
        x.measure(0, 3, 15);
        CHECK.yes("reads(7, 3)", x.reads(7, 3));
        CHECK.fraction(x, "one alone on the left", 25, 2);
        x.measure(7, 3, 40);
        x.measure(7, 3, 41);
        x.measure(7, 3, 41);
        // 25/2 and 122/3, six parts and one part of seven.
        CHECK.yes("reads(1, 3)", x.reads(1, 3));
        CHECK.fraction(x, "near the left", 347, 21);
        CHECK.yes("reads(6, 3)", x.reads(6, 3));
        CHECK.fraction(x, "near the right", 513, 14);
        x.measure(5, 3, 1);
        CHECK.yes("reads(6, 3)", x.reads(6, 3));
        CHECK.fraction(x, "the nearest ones count", 125, 6);
        x.measure(6, 4, 77);
        CHECK.yes("reads(0, 4)", x.reads(0, 4));
        CHECK.fraction(x, "one alone on the right", 77, 1);
    }

    private static void fractionStays() {
        PitchSquare x = Check.withStrips(2);
        x.measure(0, 0, 7);
        x.measure(0, 0, 8);
        x.reads(0, 0);
        x.reads(0, 1);
        x.reads(2, 0);
        x.reads(0, -1);
        x.part(3);
        x.fair(0);
        CHECK.fraction(x, "refused calls", 15, 2);
    }

    private static void twoHundred() {
        PitchSquare x = Check.withStrips(2);
        boolean all = true;
        for (int i = 0; i < 200; i++) {
            all &= x.measure(i % 2, 5, 100 * (i % 2));
        }
        CHECK.yes("200 measures", all);
        CHECK.refused(x, "measure the 201st", x.measure(0, 5, 100), 3);
        CHECK.refused(x, "measure the 201st, a bad number", x.measure(0, 5, 101), 2);
        CHECK.refused(x, "measure the 201st, no strip", x.measure(2, 5, 101), 1);
        CHECK.yes("reads(0, 5)", x.reads(0, 5));
        CHECK.fraction(x, "reads(0, 5)", 0, 1);
        CHECK.yes("reads(1, 5)", x.reads(1, 5));
        CHECK.fraction(x, "reads(1, 5)", 100, 1);
    }
}
