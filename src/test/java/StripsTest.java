/** Promises 1 to 5 and 10: a new object, status, strip, set, told, day. */
public final class StripsTest {
    private static final Check CHECK = new Check();

    public static void main(String[] args) {
        newObject();
        statusOfLatestCall();
        strips();
        setState();
        setRefused();
        toldRefused();
        bounce();
        CHECK.end();
    }

    private static void newObject() {
        PitchSquare x = new PitchSquare();
        CHECK.due("status()", x.status(), 0);
        CHECK.fraction(x, "new", 0, 1);
        CHECK.due("day()", x.day(), 0);
        CHECK.due("fault(0)", x.fault(0), PitchSquare.NONE);
        CHECK.due("fault(1)", x.fault(1), PitchSquare.NONE);
        CHECK.refused(x, "told(0, 0)", x.told(0, 0), 1);
        CHECK.refused(x, "fair(0)", x.fair(0), 1);
        CHECK.refused(x, "planned(0)", x.planned(0), 5);
        CHECK.due("give()", x.give(), 0);
        CHECK.due("NONE", PitchSquare.NONE, -1);
    }

    /** upper, lower, fault, feed and status itself leave the status; day() has one. */
    private static void statusOfLatestCall() {
        PitchSquare x = new PitchSquare();
        x.told(0, 0);
        x.upper();
        x.lower();
        x.fault(0);
        x.fault(7);
        x.feed(0, 0, 0, 0, 0);
        CHECK.due("status()", x.status(), 1);
        CHECK.due("status() again", x.status(), 1);
        for (int i = 0; i < 20; i++) {
            x.feed(0, 0, 0, 0, 0);
        }
        CHECK.due("status() behind a full tape", x.status(), 1);
        x.day();
        CHECK.due("status() behind day()", x.status(), 0);
        x.told(0, 0);
        x.strip();
        CHECK.due("status() behind strip()", x.status(), 0);
    }

    private static void strips() {
        PitchSquare x = new PitchSquare();
        for (int i = 0; i < 8; i++) {
            CHECK.due("strip()", x.strip(), i);
        }
        CHECK.refused(x, "strip() the ninth", x.strip(), 3);
        CHECK.state(x, 7, 40, 40, 40, 12, 30, 0, 30);
        CHECK.refused(x, "told(8, 0)", x.told(8, 0), 1);
    }

    private static void setState() {
        PitchSquare x = Check.withStrips(2);
        CHECK.yes("set", x.set(1, 1, 2, 3, 4, 5, 6));
        CHECK.state(x, 1, 1, 2, 3, 4, 5, 6, 4);
        CHECK.state(x, 0, 40, 40, 40, 12, 30, 0, 30);
        CHECK.yes("set to the most", x.set(1, 100, 100, 100, 60, 100, 100));
        CHECK.state(x, 1, 100, 100, 100, 60, 100, 100, 38);
        CHECK.yes("set to the least", x.set(1, 0, 0, 0, 0, 0, 0));
        CHECK.state(x, 1, 0, 0, 0, 0, 0, 0, 0);
    }

    private static void setRefused() {
        PitchSquare x = Check.withStrips(1);
        int[] most = {100, 100, 100, 60, 100, 100};
        for (int i = 0; i < most.length; i++) {
            for (int bad : new int[] {-1, most[i] + 1, Integer.MIN_VALUE, Integer.MAX_VALUE}) {
                int[] a = {10, 10, 10, 10, 10, 10};
                a[i] = bad;
                CHECK.refused(x, "set with " + bad + " at " + i,
                        x.set(0, a[0], a[1], a[2], a[3], a[4], a[5]), 2);
            }
        }
        CHECK.state(x, 0, 40, 40, 40, 12, 30, 0, 30);
        CHECK.refused(x, "set(1, ..)", x.set(1, 0, 0, 0, 0, 0, 0), 1);
        CHECK.refused(x, "set(-1, ..)", x.set(-1, 0, 0, 0, 0, 0, 0), 1);
        CHECK.refused(x, "set(1, -1, ..)", x.set(1, -1, 0, 0, 0, 0, 0), 1);
    }

    private static void toldRefused() {
        PitchSquare x = Check.withStrips(1);
        CHECK.refused(x, "told(0, 7)", x.told(0, 7), 2);
        CHECK.refused(x, "told(0, -1)", x.told(0, -1), 2);
        CHECK.refused(x, "told(1, 7)", x.told(1, 7), 1);
        CHECK.refused(x, "told(-1, 0)", x.told(-1, 0), 1);
        CHECK.refused(x, "told(MIN, MIN)", x.told(Integer.MIN_VALUE, Integer.MIN_VALUE), 1);
    }

    private static void bounce() {
        bounceOf(50, 10, 70, 0, 70);
        bounceOf(51, 10, 70, 0, 70);
        bounceOf(52, 10, 70, 0, 69);
        bounceOf(50, 13, 70, 0, 70);
        bounceOf(50, 14, 70, 0, 69);
        bounceOf(50, 10, 70, 3, 70);
        bounceOf(50, 10, 70, 4, 69);
        bounceOf(100, 60, 50, 100, 0);
        bounceOf(100, 60, 63, 100, 1);
    }

    private static void bounceOf(int first, int grass, int hard, int wear, int want) {
        PitchSquare x = Check.withStrips(1);
        x.set(0, first, 40, 40, grass, hard, wear);
        CHECK.due("bounce of " + first + ", " + grass + ", " + hard + ", " + wear,
                x.told(0, 6), want);
    }
}
