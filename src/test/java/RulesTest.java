/** Promises 15 to 19: feed, rules, fault, rate, when. */
public final class RulesTest {
    private static final Check CHECK = new Check();

    public static void main(String[] args) {
        feeding();
        bytesInOrder();
        rulesRefused();
        faultless();
        lexicalFaults();
        faultsOfPlace();
        tooMany();
        sameNames();
        leastKindFirst();
        faultStays();
        ratings();
        whenRefused();
        whenFound();
        CHECK.end();
    }

    private static void good(String text, int want) {
        PitchSquare x = new PitchSquare();
        CHECK.due("rules of [" + text + "]", Texts.read(x, text), want);
        CHECK.due("status()", x.status(), 0);
        CHECK.due("fault(0) of [" + text + "]", x.fault(0), 0);
        CHECK.due("fault(1) of [" + text + "]", x.fault(1), PitchSquare.NONE);
    }

    private static void bad(String text, int kind, int place) {
        PitchSquare x = new PitchSquare();
        CHECK.refused(x, "rules of [" + text + "]", Texts.read(x, text), 8);
        CHECK.due("fault(0) of [" + text + "]", x.fault(0), kind);
        CHECK.due("fault(1) of [" + text + "]", x.fault(1), place);
    }

    private static void feeding() {
        PitchSquare x = new PitchSquare();
        for (int i = 1; i <= 20; i++) {
            CHECK.due("feed", x.feed(-1, 0x20202020, 0, 0, 0), 20 * i);
        }
        CHECK.due("feed beyond 400", x.feed(0, 0, 0, 0, 0), PitchSquare.NONE);
        CHECK.refused(x, "rules(401)", x.rules(401), 2);
        CHECK.refused(x, "rules(400)", x.rules(400), 8);
        CHECK.due("feed on an empty tape", x.feed(0, 0, 0, 0, 0), 20);
    }

    private static void bytesInOrder() {
        PitchSquare x = Check.withStrips(1);
        // "a when hard > 29;   " then "b when rain = 0;    "
        x.feed(0x61207768, 0x656e2068, 0x61726420, 0x3e203239, 0x3b202020);
        CHECK.due("feed", x.feed(0x62207768, 0x656e2072, 0x61696e20, 0x3d20303b, 0x20202020), 40);
        CHECK.due("rules(36)", x.rules(36), 2);
        CHECK.due("rate(0)", x.rate(0), 0);
        x.set(0, 0, 0, 0, 0, 29, 0);
        CHECK.due("rate(0)", x.rate(0), 1);
    }

    private static void rulesRefused() {
        PitchSquare x = new PitchSquare();
        CHECK.refused(x, "rules(1) of nothing", x.rules(1), 2);
        CHECK.refused(x, "rules(-1)", x.rules(-1), 2);
        CHECK.due("fault(0) ahead of any", x.fault(0), PitchSquare.NONE);
        CHECK.due("fault(1) ahead of any", x.fault(1), PitchSquare.NONE);
        x.feed(0x61616161, 0, 0, 0, 0);
        CHECK.refused(x, "rules(21)", x.rules(21), 2);
        CHECK.due("feed: the tape stays behind 2", x.feed(0, 0, 0, 0, 0), 40);
        CHECK.due("rules(0)", x.rules(0), 0);
        CHECK.due("feed: the tape is empty", x.feed(0, 0, 0, 0, 0), 20);
    }

    private static void faultless() {
        good("", 0);
        good(" \n \n", 0);
        good("a when first<1;", 1);
        good("a when first<1and second>2and third=003;", 1);
        good("\na\nwhen\nfirst\n<\n999\n;\nb when rain=0;", 2);
        good("when when rain=0 and rain=0;and when wear=1;rain when grass<2;", 3);
        good("abcdefgh when bounce>0;abcdefg when hard>0;abcdefgi when hard=0;", 3);
        good("a when rain=0;b when rain=0;c when rain=0;d when rain=0;"
                + "e when rain=0;f when rain=0;g when rain=0;h when rain=0;", 8);
        good("a when rain=0 and rain=0 and rain=0 and rain=0 and rain=0 and rain=0;", 1);
        String longest = "a when rain=0;";
        good(longest + " ".repeat(400 - longest.length()), 1);
    }

    private static void lexicalFaults() {
        bad("!", 1, 0);
        bad("A when rain=0;", 1, 0);
        bad("a when rain=0;\t", 1, 14);
        bad("a when rain=0;\r", 1, 14);
        bad("a when rain=0;\0", 1, 14);
        bad("a when rain=0;\u00e4", 1, 14);
        bad("a when rain=0;\u00ff", 1, 14);
        bad("a when rain=1000;", 1, 12);
        bad("a when rain=0000;", 1, 12);
        bad("a when rain=-1;", 1, 12);
        bad("1234 when rain=0;", 1, 0);
        bad("a when rain=12345678901234567890;", 1, 12);
        bad("aB when rain=0;", 1, 1);
        bad("a when ra`in=0;", 2, 7);
        bad("a when rain{=0;", 1, 11);
        bad("a when rain/=0;", 1, 11);
        bad("a when rain:=0;", 1, 11);
    }

    private static void faultsOfPlace() {
        bad(";", 2, 0);
        bad("abcdefghi when rain=0;", 2, 0);
        bad("12 when rain=0;", 2, 0);
        bad("a", 2, 1);
        bad("a   ", 2, 4);
        bad("a when", 2, 6);
        bad("a when rain", 2, 11);
        bad("a when rain=", 2, 12);
        bad("a when rain=0", 2, 13);
        bad("a when rain=0 and", 2, 17);
        bad("a when rain=0 and\n\n", 2, 19);
        bad("a whent rain=0;", 2, 2);
        bad("a whe rain=0;", 2, 2);
        bad("a = rain=0;", 2, 2);
        bad("a when rains=0;", 2, 7);
        bad("a when 12=0;", 2, 7);
        bad("a when ;", 2, 7);
        bad("a when and rain=0;", 2, 7);
        bad("a when rain;0;", 2, 11);
        bad("a when rain 0;", 2, 12);
        bad("a when rain==0;", 2, 12);
        bad("a when rain=b;", 2, 12);
        bad("a when rain=;", 2, 12);
        bad("a when rain=0 or rain=1;", 2, 14);
        bad("a when rain=0 andrain=1;", 2, 14);
        bad("a when rain=0 1;", 2, 14);
        bad("a when rain=0;;", 2, 14);
        bad("a when rain=0; b", 2, 16);
        bad("a! when rain=0;", 1, 1);
        bad("a b !", 2, 2);
    }

    private static void tooMany() {
        String eight = "a when rain=0;b when rain=0;c when rain=0;d when rain=0;"
                + "e when rain=0;f when rain=0;g when rain=0;h when rain=0;";
        bad(eight + "i", 3, 112);
        bad(eight + " i when rain=0;", 3, 113);
        bad(eight + ";", 2, 112);
        String six = "a when rain=0 and rain=0 and rain=0 and rain=0 and rain=0 and rain=0";
        bad(six + " and rain", 3, six.length() + 5);
        bad(six + " and", 2, six.length() + 4);
        bad(six + " and rains", 2, six.length() + 5);
        // The count of tests begins anew with a rule.
        good(six + ";b" + six.substring(1) + ";", 2);
    }

    private static void sameNames() {
        bad("a when rain=0;a when rain=0;", 4, 14);
        bad("a when rain=0;ab when rain=0;  ab", 4, 31);
        good("ab when rain=0;a when rain=0;b when rain=0;", 3);
        // Names of an earlier text are free again.
        PitchSquare x = new PitchSquare();
        CHECK.due("first text", Texts.read(x, "a when rain=0;"), 1);
        CHECK.due("second text", Texts.read(x, "a when rain=1;b when rain=0;"), 2);
    }

    private static void leastKindFirst() {
        String eight = "a when rain=0;b when rain=0;c when rain=0;d when rain=0;"
                + "e when rain=0;f when rain=0;g when rain=0;h when rain=0;";
        bad(eight + "a", 3, 112);
        bad(eight + "abcdefghi", 2, 112);
        bad(eight + "1234", 1, 112);
        bad(eight + "!", 1, 112);
        bad("a when 1234", 1, 7);
    }

    private static void faultStays() {
        PitchSquare x = Check.withStrips(1);
        Texts.read(x, "a when hard=30;");
        CHECK.due("rate(0)", x.rate(0), 0);
        Texts.read(x, "b when hard=30 and");
        CHECK.due("fault(0)", x.fault(0), 2);
        x.rules(-1);
        x.rules(1);
        CHECK.due("fault(0) behind status 2", x.fault(0), 2);
        CHECK.due("fault(1) behind status 2", x.fault(1), 18);
        CHECK.due("fault(2)", x.fault(2), PitchSquare.NONE);
        CHECK.due("fault(-1)", x.fault(-1), PitchSquare.NONE);
        CHECK.due("rate(0): the rules stay", x.rate(0), 0);
        CHECK.due("feed: the tape is empty", x.feed(0, 0, 0, 0, 0), 20);
        CHECK.due("rules(0)", x.rules(0), 0);
        CHECK.due("fault(0)", x.fault(0), 0);
        CHECK.due("fault(1)", x.fault(1), PitchSquare.NONE);
        CHECK.refused(x, "rate(0): no rules", x.rate(0), 5);
    }

    private static void ratings() {
        PitchSquare x = Check.withStrips(2);
        CHECK.refused(x, "rate(2)", x.rate(2), 1);
        CHECK.refused(x, "rate(-1)", x.rate(-1), 1);
        String[] whats = {"first", "second", "third", "grass", "hard", "wear", "bounce"};
        x.set(1, 21, 22, 23, 24, 45, 26);
        for (int i = 0; i < whats.length; i++) {
            int value = x.told(1, i);
            Texts.read(x, "a when " + whats[i] + "<" + value + ";b when " + whats[i] + ">" + value
                    + ";c when " + whats[i] + "=" + value + ";");
            CHECK.due("rate by " + whats[i], x.rate(1), 2);
            Texts.read(x, "a when " + whats[i] + "<" + (value + 1) + ";");
            CHECK.due("rate by less " + whats[i], x.rate(1), 0);
            Texts.read(x, "a when " + whats[i] + ">" + (value - 1) + ";");
            CHECK.due("rate by more " + whats[i], x.rate(1), 0);
        }
        // Rain is that foretold for today, not that which came.
        Texts.read(x, "dry when rain<1;wet when rain=30 and hard=45;");
        CHECK.due("rate(1)", x.rate(1), 0);
        x.weather(0, 30, 0, true);
        CHECK.due("rate(1)", x.rate(1), 0);
        x.weather(0, 30, 0, false);
        CHECK.due("rate(1)", x.rate(1), 1);
        CHECK.refused(x, "rate(0)", x.rate(0), 5);
        x.step();
        CHECK.due("rate(0) on the next day", x.rate(0), 0);
    }

    private static void whenRefused() {
        PitchSquare x = Check.withStrips(1);
        CHECK.refused(x, "when without rules", x.when(0, 0, 1), 2);
        Texts.read(x, "a when hard=31;b when rain=0;");
        CHECK.refused(x, "when(1, ..)", x.when(1, 9, 0), 1);
        CHECK.refused(x, "when(-1, ..)", x.when(-1, 0, 1), 1);
        CHECK.refused(x, "when rule -1", x.when(0, -1, 1), 2);
        CHECK.refused(x, "when rule 2", x.when(0, 2, 1), 2);
        CHECK.refused(x, "when many 0", x.when(0, 0, 0), 2);
        CHECK.refused(x, "when many 61", x.when(0, 0, 61), 2);
        CHECK.refused(x, "when on none", x.when(0, 0, 60), 5);
    }

    private static void whenFound() {
        PitchSquare x = Check.withStrips(1);
        x.step();
        x.set(0, 40, 40, 40, 0, 50, 0);
        x.work(0, 4 + 2);
        x.play(0, 1000);
        x.weather(1, 90, 0, true);
        x.weather(3, 5, 0, false);
        // Grass is 0, 2, 4 .. from day 1 on.
        Texts.read(x, "low when grass<4;wet when rain=5;rest when grass<100;");
        CHECK.due("when low", x.when(0, 0, 60), 1);
        CHECK.due("when wet", x.when(0, 1, 3), 3);
        CHECK.due("when rest: wet is ahead of it on day 3", x.when(0, 2, 60), 4);
        CHECK.refused(x, "when wet of two", x.when(0, 1, 2), 5);
        CHECK.state(x, 0, 40, 40, 40, 0, 50, 0, 50);
        CHECK.due("day()", x.day(), 1);
        // The balls and works told are still there.
        x.step();
        CHECK.due("wear", x.told(0, 5), 25);
        // Sun foretold dries.
        x.set(0, 40, 0, 0, 0, 50, 0);
        for (int day = 2; day < 6; day++) {
            x.weather(day, 0, 10, false);
        }
        Texts.read(x, "a when first<11;");
        CHECK.due("when dry", x.when(0, 0, 10), 4);
    }
}
