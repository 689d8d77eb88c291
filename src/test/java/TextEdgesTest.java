/** Boundaries of promises 15 to 17, and of the text of the rules and its faults in part 4. */
public final class TextEdgesTest {
    private static final Edge EDGE = new Edge();
    private static final String P15 = "Promise 15";
    private static final String P16 = "Promise 16";
    private static final String P17 = "Promise 17";
    private static final String TEXT = "Terms 4, promise 16";
    private static final String FAULTS = "Terms 4, promise 17";
    private static final int BLANKS = 0x20202020;
    private static final String SIX_TESTS =
            "a when rain=0 and rain=0 and rain=0 and rain=0 and rain=0 and rain=0";

    public static void main(String[] args) {
        twentyBytes();
        moreThanFourHundred();
        highestFirst();
        firstBytes();
        bytesLeft();
        howManyBytes();
        tapeIsEmptyThen();
        rulesStay();
        rulesAreReplaced();
        howManyRules();
        atMostFourHundred();
        asLongAsTheyGo();
        blanks();
        everyByteFirst();
        everyByteBehindAWord();
        numbers();
        names();
        whatsAndSigns();
        anyNumberOfTimes();
        firstAlongTheText();
        leastKind();
        numberOfFourDigits();
        cantStandThere();
        theEnd();
        ninthRule();
        seventhTest();
        sameName();
        faultOfTheLatest();
        faultOfOthers();
        EDGE.end();
    }

    private static int feedBlanks(PitchSquare x) {
        return x.feed(BLANKS, BLANKS, BLANKS, BLANKS, BLANKS);
    }

    private static Edge.Lead fed(int times) {
        return x -> {
            Leads.addStrips(x, 1);
            for (int i = 0; i < times; i++) {
                feedBlanks(x);
            }
            // A status that feed() must leave alone.
            x.told(-1, 0);
        };
    }

    private static void twentyBytes() {
        EDGE.of(P15, "Twenty bytes come behind those on the tape");
        PitchSquare x = new PitchSquare();
        for (int i = 1; i <= 20; i++) {
            EDGE.due("feed", feedBlanks(x), 20 * i);
        }
        x.rules(0);
        EDGE.due("feed behind rules()", feedBlanks(x), 20);
    }

    private static void moreThanFourHundred() {
        EDGE.of(P15, "NONE if there would be more than 400");
        EDGE.due("feed up to 380", feedBlanks(Edge.led(fed(18))), 380);
        EDGE.due("feed up to 400", feedBlanks(Edge.led(fed(19))), 400);
        PitchSquare x = Edge.led(fed(20));
        EDGE.due("feed up to 420", x.feed(-1, -1, -1, -1, -1), Edge.NONE);
        EDGE.due("status() behind it", x.status(), 1);
        EDGE.due("feed once more", x.feed(-1, -1, -1, -1, -1), Edge.NONE);
        EDGE.same("a refused feed", Leads.both(Leads::full, y -> y.feed(-1, -1, -1, -1, -1)),
                Leads::full, Probe.values());
    }

    /** The text is "a when rain=0;" and "b when hard>29;", each as five ints. */
    private static void highestFirst() {
        EDGE.of(P15, "the highest of each int first");
        PitchSquare x = Edge.led(Leads.strips(1));
        x.feed(0x61207768, 0x656e2072, 0x61696e3d, 0x303b2020, BLANKS);
        x.feed(0x62207768, 0x656e2068, 0x6172643e, 0x32393b20, BLANKS);
        EDGE.due("rules(40)", x.rules(40), 2);
        x.weather(0, 1, 0, false);
        EDGE.due("rate(0)", x.rate(0), 1);
        // The highest bit of a byte belongs to it and to no other.
        int[] words = {0x80202020, 0x20802020, 0x20208020, 0x20202080, 0xff202020, 0x202020ff};
        int[] places = {0, 1, 2, 3, 0, 3};
        for (int i = 0; i < words.length; i++) {
            PitchSquare y = new PitchSquare();
            y.feed(BLANKS, BLANKS, BLANKS, BLANKS, words[i]);
            EDGE.due("rules(20)", y.rules(20), Edge.NONE);
            EDGE.due("fault(0) of " + Integer.toHexString(words[i]), y.fault(0), 1);
            EDGE.due("fault(1) of " + Integer.toHexString(words[i]), y.fault(1), 16 + places[i]);
        }
    }

    private static void good(String text, int rules) {
        PitchSquare x = new PitchSquare();
        EDGE.due("rules of [" + text + "]", Texts.read(x, text), rules);
        EDGE.due("status() of [" + text + "]", x.status(), 0);
        EDGE.due("fault(0) of [" + text + "]", x.fault(0), 0);
        EDGE.due("fault(1) of [" + text + "]", x.fault(1), Edge.NONE);
    }

    private static void bad(String text, int kind, int place) {
        PitchSquare x = new PitchSquare();
        EDGE.due("rules of [" + text + "]", Texts.read(x, text), Edge.NONE);
        EDGE.due("status() of [" + text + "]", x.status(), 8);
        EDGE.due("fault(0) of [" + text + "]", x.fault(0), kind);
        EDGE.due("fault(1) of [" + text + "]", x.fault(1), place);
    }

    private static void cut(String text, int n, int kind, int place) {
        PitchSquare x = new PitchSquare();
        Texts.feed(x, text);
        x.rules(n);
        EDGE.due("fault(0) of the first " + n + " of [" + text + "]", x.fault(0), kind);
        EDGE.due("fault(1) of the first " + n + " of [" + text + "]", x.fault(1), place);
    }

    private static void firstBytes() {
        EDGE.of(P16, "The first n bytes of the tape");
        String text = "a when rain=1234;!";
        cut(text, 0, 0, -1);
        cut(text, 1, 2, 1);
        cut(text, 14, 2, 14);
        cut(text, 15, 2, 15);
        // The number has four digits only from here on.
        cut(text, 16, 1, 12);
        cut("a when rain=123;!", 15, 2, 15);
        cut("a when rain=123;!", 16, 0, -1);
        cut("a when rain=123;!", 17, 1, 16);
        cut("abcdefghi", 8, 2, 8);
        cut("abcdefghi", 9, 2, 0);
    }

    private static void bytesLeft() {
        EDGE.of(P16, "the tape (which is empty then)");
        // What stands behind the first n bytes is gone too.
        PitchSquare x = new PitchSquare();
        Texts.feed(x, "a when rain=0;b when rain=0;");
        EDGE.due("rules(14)", x.rules(14), 1);
        EDGE.due("rules(1) of an empty tape", x.rules(1), Edge.NONE);
        EDGE.due("status()", x.status(), 2);
        EDGE.due("feed", feedBlanks(x), 20);
        EDGE.due("rules(20)", x.rules(20), 0);
    }

    private static void howManyBytes() {
        EDGE.of(P16, "2: n below 0, or more than the tape has");
        for (int times : new int[] {1, 2, 19, 20}) {
            int size = 20 * times;
            for (int n : new int[] {Integer.MIN_VALUE, -1, size + 1, size + 20, Integer.MAX_VALUE}) {
                EDGE.refused(fed(times), "rules(" + n + ") of " + size, x -> x.rules(n), Edge.NONE, 2);
            }
            for (int n : new int[] {0, 1, size - 1, size}) {
                EDGE.taken(fed(times), "rules(" + n + ") of " + size, x -> x.rules(n), Edge.NONE);
            }
        }
        EDGE.refused(Leads::nothing, "rules(-1) of nothing", x -> x.rules(-1), Edge.NONE, 2);
        EDGE.taken(Leads::nothing, "rules(0) of nothing", x -> x.rules(0), Edge.NONE);
        EDGE.refused(Leads::nothing, "rules(1) of nothing", x -> x.rules(1), Edge.NONE, 2);
        // A text with a fault is not looked at, nor is the tape emptied.
        EDGE.refused(Leads.both(Leads::square, x -> Texts.feed(x, "!")), "rules(41) of 40",
                x -> x.rules(41), Edge.NONE, 2);
        PitchSquare x = Edge.led(Leads::square);
        x.rules(21);
        EDGE.due("feed behind rules(21)", feedBlanks(x), 40);
        EDGE.due("rules(17)", x.rules(17), 1);
    }

    private static void ruled(PitchSquare x) {
        Leads.addStrips(x, 2);
        x.weather(0, 7, 0, false);
        x.weather(3, 9, 0, false);
        Texts.read(x, "a when rain=9;b when rain=0;c when hard=30;");
    }

    private static void tapeIsEmptyThen() {
        EDGE.of(P16, "8: the tape is empty then, too");
        PitchSquare x = Edge.led(TextEdgesTest::ruled);
        Texts.feed(x, "a when rain=0;b when");
        Texts.feed(x, "c when rain=0;");
        EDGE.due("rules(20)", x.rules(20), Edge.NONE);
        EDGE.due("status()", x.status(), 8);
        EDGE.due("rules(1) of an empty tape", x.rules(1), Edge.NONE);
        EDGE.due("status()", x.status(), 2);
        EDGE.due("feed", feedBlanks(x), 20);
    }

    private static void rulesStay() {
        EDGE.of(P16, "the RULES stay");
        String[] texts = {"!", "a", "a when rain=1;b", "a when rain=1;a", Texts.EIGHT_RULES + "i"};
        for (String text : texts) {
            Edge.Lead faulty = Leads.both(TextEdgesTest::ruled, x -> Texts.read(x, text));
            for (Probe probe : Probe.values()) {
                // Only fault() tells another thing then.
                if (probe != Probe.SILENT) {
                    EDGE.same("rules of [" + text + "]", faulty, TextEdgesTest::ruled, probe);
                }
            }
            PitchSquare x = Edge.led(faulty);
            EDGE.due("status() behind [" + text + "]", x.status(), 8);
            EDGE.due("rate(0) behind [" + text + "]", x.rate(0), 2);
            EDGE.due("when(0, 0, 4) behind [" + text + "]", x.when(0, 0, 4), 3);
            EDGE.due("when(0, 3, 4) behind [" + text + "]", x.when(0, 3, 4), Edge.NONE);
        }
    }

    private static void rulesAreReplaced() {
        EDGE.of(P16, "are the TEXT: how many RULES");
        PitchSquare x = Edge.led(TextEdgesTest::ruled);
        EDGE.due("rules of one", Texts.read(x, "z when hard=30;"), 1);
        EDGE.due("rate(0)", x.rate(0), 0);
        EDGE.due("when(0, 0, 1)", x.when(0, 0, 1), 0);
        EDGE.due("when(0, 1, 1)", x.when(0, 1, 1), Edge.NONE);
        EDGE.due("status()", x.status(), 2);
        EDGE.due("rules(0)", x.rules(0), 0);
        EDGE.due("rate(0) without rules", x.rate(0), Edge.NONE);
        EDGE.due("status()", x.status(), 5);
        // And back, and forth: a text has its own rules alone.
        Texts.read(x, "a when hard=31;b when hard=30;");
        EDGE.due("rate(0)", x.rate(0), 1);
        Texts.read(x, "a when hard=31;");
        EDGE.due("rate(0)", x.rate(0), Edge.NONE);
    }

    private static void howManyRules() {
        EDGE.of(TEXT, "TEXT: {RULE ;}");
        StringBuilder text = new StringBuilder();
        good("", 0);
        good(" ", 0);
        for (int i = 0; i < 8; i++) {
            text.append((char) ('a' + i)).append(" when rain=0;");
            good(text.toString(), i + 1);
        }
        bad(";", 2, 0);
        bad("a when rain=0;;", 2, 14);
    }

    private static void atMostFourHundred() {
        EDGE.of(TEXT, "a TEXT of at most 400 bytes");
        String rule = "a when rain=0;";
        good(" ".repeat(399), 0);
        good(" ".repeat(400), 0);
        good(" ".repeat(399 - rule.length()) + rule, 1);
        good(" ".repeat(400 - rule.length()) + rule, 1);
        cut(" ".repeat(400 - rule.length()) + rule, 399, 2, 399);
        bad(" ".repeat(398) + "!", 1, 398);
        bad(" ".repeat(399) + "!", 1, 399);
        bad(" ".repeat(399) + "a", 2, 400);
        bad(" ".repeat(398) + "a", 2, 399);
        bad("a" + " ".repeat(399), 2, 400);
        bad("a".repeat(400), 2, 0);
        bad("1".repeat(400), 1, 0);
        bad(";".repeat(400), 2, 0);
        // Six rules of six tests are 384 bytes.
        StringBuilder long384 = new StringBuilder();
        for (int i = 0; i < 6; i++) {
            String tests = "rain=0and ".repeat(5) + "rain=0";
            long384.append((char) ('a' + i)).append(" when ").append(tests).append(";");
        }
        good(long384.toString(), 6);
        EDGE.due("its length", long384.length(), 384);
    }

    private static void asLongAsTheyGo() {
        EDGE.of(TEXT, "TOKENS, as long as they go");
        good("a when rain=1and rain=2;", 1);
        good("a when rain=12and rain=2;b when rain<3;", 2);
        bad("a whenrain=0;", 2, 2);
        bad("awhen rain=0;", 2, 6);
        bad("a when rain=0andrain=0;", 2, 13);
        bad("a when rain=1 2;", 2, 14);
        bad("a when ra in=0;", 2, 7);
        bad("a when rain<=0;", 2, 12);
        bad("a when rain<>0;", 2, 12);
        bad("a1 when rain=0;", 2, 1);
        bad("a when rain=1a;", 2, 13);
    }

    private static void blanks() {
        EDGE.of(TEXT, "between them blanks (10, 32)");
        for (int b = 0; b < 256; b++) {
            String blank = String.valueOf((char) b);
            if (b == 10 || b == 32) {
                good(blank, 0);
                good("a" + blank + "when rain=0;", 1);
                good(blank + blank + "a when" + blank + blank + "rain=0" + blank + ";" + blank, 1);
            } else if (b < 48 || b == 127) {
                bad(blank, 1, 0);
                bad("a" + blank + "when rain=0;", 1, 1);
            }
        }
        good("a when rain=0;b when rain=0;", 2);
        good("a\nwhen\n\n rain \n=\n0\n;\n", 1);
    }

    private static boolean isLetter(int b) {
        return "abcdefghijklmnopqrstuvwxyz".indexOf(b) >= 0;
    }

    private static boolean isDigitOrSign(int b) {
        return "0123456789<>=;".indexOf(b) >= 0;
    }

    private static void everyByteFirst() {
        EDGE.of(FAULTS, "1 no TOKEN begins so", "every byte");
        for (int b = 0; b < 256; b++) {
            String text = String.valueOf((char) b);
            if (b == 10 || b == 32) {
                good(text, 0);
            } else if (isLetter(b)) {
                bad(text, 2, 1);
            } else {
                bad(text, isDigitOrSign(b) ? 2 : 1, 0);
            }
        }
    }

    private static void everyByteBehindAWord() {
        EDGE.of(FAULTS, "1 no TOKEN begins so", "every byte behind a WORD and a NUMBER");
        for (int b = 0; b < 256; b++) {
            char c = (char) b;
            if (isLetter(b) || b == 10 || b == 32) {
                bad("a" + c, 2, 2);
            } else {
                bad("a" + c, isDigitOrSign(b) ? 2 : 1, 1);
            }
            if (isLetter(b) || "<>=".indexOf(b) >= 0) {
                bad("a when rain=0" + c, 2, 13);
            } else if (b == ';') {
                good("a when rain=0" + c, 1);
            } else if (b == 10 || b == 32 || isDigitOrSign(b)) {
                bad("a when rain=0" + c, 2, 14);
            } else {
                bad("a when rain=0" + c, 1, 13);
            }
        }
    }

    private static void numbers() {
        EDGE.of(TEXT, "NUMBERS (1 to 3 digits)");
        String[] numbers = {"0", "9", "00", "10", "99", "000", "007", "100", "999"};
        for (String number : numbers) {
            good("a when rain=" + number + ";", 1);
        }
        bad("a when rain=;", 2, 12);
        bad("a when rain=1000;", 1, 12);
        bad("a when rain=0000;", 1, 12);
        bad("a when rain=00000;", 1, 12);
        // A number is read by its digits: 030 is 30.
        PitchSquare x = Edge.led(Leads.strips(1));
        Texts.read(x, "a when hard=300;b when hard=3;c when hard=030;");
        EDGE.due("rate(0) by 030", x.rate(0), 2);
        Texts.read(x, "a when hard>998;b when hard<999;");
        EDGE.due("rate(0) by 999", x.rate(0), 1);
    }

    private static void names() {
        EDGE.of(TEXT, "NAME: a WORD of 1 to 8 letters");
        good("a when rain=0;", 1);
        good("z when rain=0;", 1);
        good("ab when rain=0;", 1);
        good("abcdefg when rain=0;", 1);
        good("abcdefgh when rain=0;", 1);
        bad("abcdefghi when rain=0;", 2, 0);
        bad("abcdefghij when rain=0;", 2, 0);
        bad(" when rain=0;", 2, 6);
        bad("1 when rain=0;", 2, 0);
        bad("= when rain=0;", 2, 0);
        // Any word will do.
        good("when when rain=0;and when rain=0;rain when rain=0;bounce when rain=0;", 4);
    }

    private static String otherLetter(String word, int at) {
        return word.substring(0, at) + "x" + word.substring(at + 1);
    }

    private static void whatsAndSigns() {
        EDGE.of(TEXT, "WHAT: bounce, first, second, third, grass, hard, wear, rain", "COMPARES");
        String[] whats = {"bounce", "first", "second", "third", "grass", "hard", "wear", "rain"};
        for (String what : whats) {
            for (String sign : new String[] {"<", ">", "="}) {
                good("a when " + what + sign + "0;", 1);
            }
            bad("a when " + what + ";0;", 2, 7 + what.length());
            bad("a when " + what + "s=0;", 2, 7);
            bad("a when " + what.substring(1) + "=0;", 2, 7);
            bad("a when " + what.substring(0, what.length() - 1) + "=0;", 2, 7);
            for (int i = 0; i < what.length(); i++) {
                bad("a when " + otherLetter(what, i) + "=0;", 2, 7);
            }
        }
        bad("a when sun=0;", 2, 7);
        bad("a when day=0;", 2, 7);
    }

    private static void anyNumberOfTimes() {
        EDGE.of(TEXT, "RULE: NAME when TEST {and TEST}");
        good("a when rain=0;", 1);
        good("a when rain=0 and rain=0;", 1);
        good(SIX_TESTS + ";", 1);
        bad("a when ;", 2, 7);
        bad("a ;", 2, 2);
        bad("a when rain=0 rain=0;", 2, 14);
        bad("a when rain=0 and ;", 2, 18);
        bad("a when rain=0 and and rain=0;", 2, 18);
        bad("a when and rain=0;", 2, 7);
        bad("a and rain=0;", 2, 2);
        bad("a whe rain=0;", 2, 2);
        bad("a whenn rain=0;", 2, 2);
        bad("a when rain=0 an rain=0;", 2, 14);
        bad("a when rain=0 andd rain=0;", 2, 14);
        // Every letter of a word counts.
        for (int i = 0; i < 4; i++) {
            bad("a " + otherLetter("when", i) + " rain=0;", 2, 2);
        }
        for (int i = 0; i < 3; i++) {
            bad("a when rain=0 " + otherLetter("and", i) + " rain=0;", 2, 14);
        }
    }

    private static void firstAlongTheText() {
        EDGE.of(FAULTS, "FAULTS, the first along the text");
        bad("! a b", 1, 0);
        bad("a b !", 2, 2);
        bad("a when rain=0;a when !", 4, 14);
        bad("a when rain=0;b b a", 2, 16);
        bad(Texts.EIGHT_RULES + "i !", 3, 112);
        bad(SIX_TESTS + " and rain !", 3, SIX_TESTS.length() + 5);
        bad("a when rain=0;a when rain=0;a !", 4, 14);
        bad("a when rain=1000;a when rain=0;a", 1, 12);
    }

    private static void leastKind() {
        EDGE.of(FAULTS, "of one TOKEN the least kind");
        bad("a 1000", 1, 2);
        bad("a !", 1, 2);
        bad("a when !", 1, 7);
        bad("a when rain!", 1, 11);
        bad("a when rain=!", 1, 12);
        bad("a when rain=0!", 1, 13);
        bad(Texts.EIGHT_RULES + "!", 1, 112);
        bad(Texts.EIGHT_RULES + "1000", 1, 112);
        bad(Texts.EIGHT_RULES + "100", 2, 112);
        bad(Texts.EIGHT_RULES + "abcdefghi", 2, 112);
        bad(Texts.EIGHT_RULES + "a", 3, 112);
        bad(Texts.EIGHT_RULES + "h", 3, 112);
        bad(SIX_TESTS + " and rains", 2, SIX_TESTS.length() + 5);
        bad(SIX_TESTS + " and 1000", 1, SIX_TESTS.length() + 5);
    }

    private static void numberOfFourDigits() {
        EDGE.of(FAULTS, "a NUMBER of 4 digits and more: at its first");
        bad("a when rain= 1000;", 1, 13);
        bad("1000", 1, 0);
        bad("100", 2, 0);
        bad("a when rain=10000000000000000000;", 1, 12);
        bad("a when rain=0;1234", 1, 14);
        bad("a when rain=0 1234", 1, 14);
        bad("a when rain=123!", 1, 15);
        bad("a when rain=1234!", 1, 12);
    }

    private static void cantStandThere() {
        EDGE.of(FAULTS, "2 it can't stand there");
        // Each kind of token where it may not be: name, when, WHAT, COMPARES, NUMBER, end.
        String[] leads = {"", "a ", "a when ", "a when rain ", "a when rain= ", "a when rain=0 "};
        String[] tokens = {"b", "when", "and", "rain", "0", "<", ">", "=", ";"};
        String[] allowed = {"b when and rain", "when", "rain", "< > =", "0", "and ;"};
        for (int i = 0; i < leads.length; i++) {
            for (String token : tokens) {
                if ((" " + allowed[i] + " ").contains(" " + token + " ")) {
                    continue;
                }
                bad(leads[i] + token, 2, leads[i].length());
                bad(leads[i] + "\n" + token + " when", 2, leads[i].length() + 1);
            }
        }
    }

    private static void theEnd() {
        EDGE.of(FAULTS, "2 it can't stand there (the end: the text's length)");
        String rule = "a when rain=0 and rain=0;";
        int[] ends = {1, 2, 6, 7, 11, 12, 13, 14, 17, 18, 22, 23, 24};
        for (int end : ends) {
            bad(rule.substring(0, end), 2, end);
            bad(rule.substring(0, end) + " ", 2, end + 1);
            bad(rule.substring(0, end) + "\n\n\n", 2, end + 3);
        }
        good(rule, 1);
        good(rule + "\n", 1);
        bad(rule + "b", 2, 26);
    }

    private static void ninthRule() {
        EDGE.of(FAULTS, "3 a ninth RULE (at its NAME)");
        good(Texts.EIGHT_RULES, 8);
        good(Texts.EIGHT_RULES + " \n", 8);
        bad(Texts.EIGHT_RULES + "i", 3, 112);
        bad(Texts.EIGHT_RULES + "i when rain=0;", 3, 112);
        bad(Texts.EIGHT_RULES + "  abcdefgh", 3, 114);
        bad(Texts.EIGHT_RULES + ";", 2, 112);
        // Of seven rules and another, the eighth.
        bad(Texts.EIGHT_RULES.substring(0, 98) + "i", 2, 99);
    }

    private static void seventhTest() {
        EDGE.of(FAULTS, "a seventh TEST of a RULE (at its WHAT)");
        int length = SIX_TESTS.length();
        good(SIX_TESTS + ";", 1);
        bad(SIX_TESTS, 2, length);
        bad(SIX_TESTS + " and", 2, length + 4);
        bad(SIX_TESTS + " and rain", 3, length + 5);
        bad(SIX_TESTS + " and\n\nrain=0;", 3, length + 6);
        bad(SIX_TESTS.substring(0, length - 11) + " and rain", 2, length - 2);
        // Each rule has its own six.
        String second = "b" + SIX_TESTS.substring(1);
        good(SIX_TESTS + ";" + second + ";", 2);
        bad(SIX_TESTS + ";" + second + " and rain", 3, 2 * length + 6);
        bad("c when rain=0;" + second + " and rain", 3, 14 + length + 5);
        good("c when rain=0;" + second + ";", 2);
    }

    private static void sameName() {
        EDGE.of(FAULTS, "4 a NAME that a RULE has already (at it)");
        bad("a when rain=0;a", 4, 14);
        bad("a when rain=0;b when rain=0;a when rain=0;", 4, 28);
        bad("a when rain=0;b when rain=0; b", 4, 29);
        bad("abcdefgh when rain=0;abcdefgh", 4, 21);
        bad(Texts.EIGHT_RULES.substring(0, 98) + "g", 4, 98);
        bad(Texts.EIGHT_RULES.substring(0, 98) + "a", 4, 98);
        good("a when rain=0;ab when rain=0;abc when rain=0;b when rain=0;bc when rain=0;", 5);
        good("ab when rain=0;a when rain=0;", 2);
        // What stands behind a name is not of it.
        bad("a when rain=0;a\nwhen rain=0;", 4, 14);
        bad("a\nwhen rain=0;a when rain=0;", 4, 14);
        bad("a when rain=0;a;", 4, 14);
        bad("a when rain=0;a!", 4, 14);
        for (int i = 0; i < 8; i++) {
            good("abcdefgh when rain=0;" + otherLetter("abcdefgh", i) + " when rain=0;", 2);
        }
        good("abcdefgh when rain=0;abcdefgi when rain=0;bbcdefgh when rain=0;", 3);
        // The names of a text before are none of this one's.
        PitchSquare x = new PitchSquare();
        EDGE.due("a text", Texts.read(x, "a when rain=0;b when rain=0;"), 2);
        EDGE.due("the same text again", Texts.read(x, "a when rain=0;b when rain=0;"), 2);
        EDGE.due("a text with a fault", Texts.read(x, "c when rain=0;c"), Edge.NONE);
        EDGE.due("a text behind it", Texts.read(x, "c when rain=0;"), 1);
    }

    private static void faultOfTheLatest() {
        EDGE.of(P17, "Of the latest rules() with STATUS 0 or 8");
        PitchSquare x = new PitchSquare();
        told("ahead of any", x, -1, -1);
        x.rules(-1);
        x.rules(1);
        told("ahead of any with STATUS 0 or 8", x, -1, -1);
        x.rules(0);
        told("behind STATUS 0", x, 0, -1);
        Texts.read(x, "a b");
        told("behind STATUS 8", x, 2, 2);
        x.rules(1);
        x.rules(-1);
        told("behind STATUS 2", x, 2, 2);
        feedBlanks(x);
        told("behind feed()", x, 2, 2);
        // The blanks just fed are ahead of it.
        Texts.feed(x, "!");
        x.rules(40);
        told("behind another STATUS 8", x, 1, 20);
        x.rules(0);
        told("behind STATUS 0 again", x, 0, -1);
        PitchSquare y = new PitchSquare();
        Texts.read(y, "!");
        told("behind STATUS 8 at once", y, 1, 0);
    }

    private static void told(String what, PitchSquare x, int kind, int place) {
        x.told(-1, 0);
        EDGE.due("fault(0) " + what, x.fault(0), kind);
        EDGE.due("fault(1) " + what, x.fault(1), place);
        EDGE.due("status() behind fault(), " + what, x.status(), 1);
    }

    private static void faultOfOthers() {
        EDGE.of(P17, "NONE for others");
        PitchSquare x = new PitchSquare();
        Texts.read(x, "a b");
        for (int what : new int[] {Integer.MIN_VALUE, -2, -1, 2, 3, Integer.MAX_VALUE}) {
            EDGE.due("fault(" + what + ")", x.fault(what), Edge.NONE);
        }
        EDGE.due("fault(0)", x.fault(0), 2);
        EDGE.due("fault(1)", x.fault(1), 2);
    }
}
