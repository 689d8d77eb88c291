/** Boundaries of promises 20 to 24, and of the season and the giving in part 3. */
public final class SeasonEdgesTest {
    private static final Edge EDGE = new Edge();
    private static final String SEASON = "Terms 3, promise 20";
    private static final String GIVING = "Terms 3, promise 23";
    private static final String P20 = "Promise 20";
    private static final String P21 = "Promise 21";
    private static final String P22 = "Promise 22";
    private static final String P23 = "Promise 23";
    private static final String P24 = "Promise 24";

    public static void main(String[] args) {
        atMostEight();
        days();
        ranks();
        noTwoAlike();
        numberedAsTheyCome();
        worthOfWhat();
        worths();
        fiftyAtFirst();
        restNumbers();
        sparedNumbers();
        restAtFirst();
        restApartOrMore();
        restOfEachPair();
        sparedAtFirst();
        sparedDays();
        sparedAheadAlone();
        sparedForRankNine();
        restBesideSpared();
        firstSix();
        toEachMatch();
        mostWorth();
        firstByMatches();
        thereIsNone();
        worthTogether();
        givenOfNoMatch();
        givenAsThingsAre();
        EDGE.end();
    }

    private static void atMostEight() {
        EDGE.of(SEASON, "MATCHES, at most 8");
        EDGE.due("match() the seventh", Edge.led(Leads.matches(6)).match(999, 0), 6);
        EDGE.due("match() the eighth", Edge.led(Leads.matches(7)).match(999, 0), 7);
        Edge.Lead eight = Leads.both(Leads.strips(6), Leads.matches(8));
        EDGE.refused(eight, "match() the ninth", x -> x.match(999, 0), Edge.NONE, 3);
        EDGE.refused(Leads.both(eight, x -> x.match(999, 0)), "match() the tenth",
                x -> x.match(998, 0), Edge.NONE, 3);
        EDGE.refused(Leads::full, "match() of a full square", x -> x.match(999, 9), Edge.NONE, 3);
    }

    private static void days() {
        EDGE.of(SEASON, "on a DAY (0 to 999; no two alike)", "0 to 999");
        EDGE.ends(Leads::square, "match(#, 5)", (x, day) -> x.match(day, 5), Edge.NONE, 0, 999);
        // A day that is gone may have a match.
        EDGE.taken(Leads.both(Leads::square, PitchSquare::step), "match(1, 5) on day 2",
                x -> x.match(1, 5), Edge.NONE);
    }

    private static void ranks() {
        EDGE.of(SEASON, "of a RANK 0 to 9");
        EDGE.ends(Leads::square, "match(5, #)", (x, rank) -> x.match(5, rank), Edge.NONE, 0, 9);
    }

    private static void noTwoAlike() {
        EDGE.of(SEASON, "on a DAY (0 to 999; no two alike)", "no two alike");
        // There are matches on days 30, 45 and 60.
        for (int day : new int[] {30, 45, 60}) {
            EDGE.taken(Leads::square, "match the day ahead", x -> x.match(day - 1, 0), Edge.NONE);
            EDGE.refused(Leads::square, "match(" + day + ", 0)", x -> x.match(day, 0), Edge.NONE, 7);
            EDGE.refused(Leads::square, "match(" + day + ", 9)", x -> x.match(day, 9), Edge.NONE, 7);
            EDGE.taken(Leads::square, "match the day behind", x -> x.match(day + 1, 0), Edge.NONE);
        }
        // The seventh and last but one still looks at all the others.
        EDGE.refused(Leads.matches(7), "match(0, 0)", x -> x.match(0, 0), Edge.NONE, 7);
        EDGE.refused(Leads.matches(7), "match(180, 0)", x -> x.match(180, 0), Edge.NONE, 7);
        EDGE.refused(Leads.both(Leads::nothing, x -> x.match(999, 0)), "match(999, 0)",
                x -> x.match(999, 0), Edge.NONE, 7);
        // A refused match takes no day.
        PitchSquare x = new PitchSquare();
        x.match(5, 10);
        EDGE.due("match(5, 9) behind a refused one", x.match(5, 9), 0);
    }

    private static void numberedAsTheyCome() {
        EDGE.of(P20, "A MATCH more: its number");
        PitchSquare x = new PitchSquare();
        for (int i = 0; i < 8; i++) {
            EDGE.due("match()", x.match(900 - 30 * i, 0), i);
            EDGE.due("status()", x.status(), 0);
        }
    }

    private static void worthOfWhat() {
        EDGE.of(P21, "The WORTH of a MATCH on a STRIP (1; 2)", "1");
        EDGE.numbered(Leads::square, "worth(#, 0, 5)",
                (x, match) -> Edge.number(x.worth(match, 0, 5)), Edge.NO, 3);
        EDGE.numbered(Leads::square, "worth(0, #, 5)",
                (x, strip) -> Edge.number(x.worth(0, strip, 5)), Edge.NO, 3);
        EDGE.numbered(Leads::full, "worth(#, 7, 5)",
                (x, match) -> Edge.number(x.worth(match, 7, 5)), Edge.NO, 8);
        EDGE.numbered(Leads::full, "worth(7, #, 5)",
                (x, strip) -> Edge.number(x.worth(7, strip, 5)), Edge.NO, 8);
        EDGE.refused(Leads.strips(8), "worth(0, 0, 5) without matches",
                x -> Edge.number(x.worth(0, 0, 5)), Edge.NO, 1);
        EDGE.refused(Leads.matches(8), "worth(0, 0, 5) without strips",
                x -> Edge.number(x.worth(0, 0, 5)), Edge.NO, 1);
    }

    private static void worths() {
        EDGE.of("Terms 3, promise 21", "has a WORTH (0 to 100; 50 at first)", "0 to 100");
        EDGE.ends(Leads::square, "worth(0, 0, #)",
                (x, worth) -> Edge.number(x.worth(0, 0, worth)), Edge.NO, 0, 100);
        for (int worth : new int[] {0, 1, 99, 100}) {
            PitchSquare x = Edge.led(Leads.both(Leads.strips(1), Leads.matches(1)));
            x.worth(0, 0, worth);
            EDGE.due("give() of " + worth, x.give(), worth);
        }
    }

    private static void fiftyAtFirst() {
        EDGE.of("Terms 3, promise 21", "has a WORTH (0 to 100; 50 at first)", "50");
        PitchSquare x = Edge.led(Leads.both(Leads.strips(6), Leads.matches(8)));
        EDGE.due("give()", x.give(), 400);
        for (int strip = 1; strip < 6; strip++) {
            x.worth(3, strip, 51);
            EDGE.due("given(3) with 51 on strip " + strip, x.given(3), strip);
            x.worth(3, strip, 50);
            EDGE.due("given(3) with 50 on strip " + strip, x.given(3), 0);
        }
        x.worth(3, 0, 49);
        EDGE.due("given(3) with 49 on strip 0", x.given(3), 1);
    }

    private static void restNumbers() {
        EDGE.of("Terms 3, promise 22", "REST days (0 to 60; 10 at first)", "0 to 60");
        EDGE.ends(Leads::square, "rests(#, 5)", (x, rest) -> Edge.number(x.rests(rest, 5)), Edge.NO,
                0, 60);
    }

    private static void sparedNumbers() {
        EDGE.of("Terms 3, promise 22", "the SPARED days (0 to 100; 20 at first)", "0 to 100");
        EDGE.ends(Leads::square, "rests(5, #)", (x, spared) -> Edge.number(x.rests(5, spared)),
                Edge.NO, 0, 100);
    }

    /** Matches on one strip: days and ranks by turns. */
    private static PitchSquare oneStrip(int... matches) {
        PitchSquare x = Edge.led(Leads.strips(1));
        for (int i = 0; i + 1 < matches.length; i += 2) {
            x.match(matches[i], matches[i + 1]);
        }
        return x;
    }

    private static void fits(String what, PitchSquare x, boolean want) {
        int worth = x.give();
        EDGE.yes("give() " + what, want ? worth > 0 : worth == PitchSquare.NONE);
        EDGE.due("status() " + what, x.status(), want ? 0 : 6);
    }

    private static void apart(int days, int rest, boolean want) {
        // In both orders, for the later day may be the earlier match.
        PitchSquare x = oneStrip(100, 0, 100 + days, 0);
        PitchSquare y = oneStrip(100 + days, 0, 100, 0);
        x.rests(rest, 0);
        y.rests(rest, 0);
        fits(days + " apart, rest " + rest, x, want);
        fits(days + " apart, rest " + rest + ", the later first", y, want);
    }

    private static void restAtFirst() {
        EDGE.of(GIVING, "REST days (0 to 60; 10 at first)", "10");
        fits("9 apart", oneStrip(100, 0, 109, 0), false);
        fits("10 apart", oneStrip(100, 0, 110, 0), true);
        fits("11 apart", oneStrip(100, 0, 111, 0), true);
    }

    private static void restApartOrMore() {
        EDGE.of(GIVING, "apart or more (the later DAY less the earlier one)");
        for (int rest : new int[] {2, 3, 30, 59, 60}) {
            apart(rest - 1, rest, false);
            apart(rest, rest, true);
            apart(rest + 1, rest, true);
        }
        apart(1, 0, true);
        apart(1, 1, true);
        apart(1, 2, false);
        fits("days 0 and 999", oneStrip(0, 0, 999, 0), true);
        PitchSquare x = oneStrip(100, 0, 110, 0);
        x.rests(61, 0);
        fits("behind a refused rests(61, 0)", x, true);
        x.rests(11, 0);
        fits("behind rests(11, 0)", x, false);
        x.rests(10, 101);
        fits("behind a refused rests(10, 101)", x, false);
        x.rests(10, 100);
        fits("behind rests(10, 100)", x, true);
    }

    private static void restOfEachPair() {
        EDGE.of(GIVING, "so that two on one STRIP are REST days", "each two");
        fits("three, all apart", oneStrip(100, 0, 120, 0, 110, 0), true);
        fits("three, the last two close", oneStrip(100, 0, 120, 0, 111, 0), false);
        fits("three, the first two close", oneStrip(100, 0, 120, 0, 109, 0), false);
        fits("eight, all apart",
                oneStrip(0, 0, 10, 0, 20, 0, 30, 0, 40, 0, 50, 0, 60, 0, 70, 0), true);
        fits("eight, the last two close",
                oneStrip(0, 0, 10, 0, 20, 0, 30, 0, 40, 0, 50, 0, 60, 0, 69, 0), false);
    }

    private static void sparedAtFirst() {
        EDGE.of(GIVING, "the SPARED days (0 to 100; 20 at first)", "20");
        fits("19 ahead", oneStrip(100, 0, 119, 9), false);
        fits("20 ahead", oneStrip(100, 0, 120, 9), false);
        fits("21 ahead", oneStrip(100, 0, 121, 9), true);
        fits("22 ahead", oneStrip(100, 0, 122, 9), true);
    }

    private static void sparedBy(int days, int spared, boolean want) {
        PitchSquare x = oneStrip(100, 0, 100 + days, 9);
        PitchSquare y = oneStrip(100 + days, 9, 100, 0);
        x.rests(0, spared);
        y.rests(0, spared);
        fits(days + " ahead, spared " + spared, x, want);
        fits(days + " ahead, spared " + spared + ", the final first", y, want);
    }

    private static void sparedDays() {
        EDGE.of(GIVING, "a STRIP on which a MATCH of RANK 9 is has none in the SPARED days");
        for (int spared : new int[] {2, 50, 99, 100}) {
            sparedBy(spared - 1, spared, false);
            sparedBy(spared, spared, false);
            sparedBy(spared + 1, spared, true);
        }
        sparedBy(1, 0, true);
        sparedBy(1, 1, false);
        sparedBy(2, 1, true);
    }

    private static void sparedAheadAlone() {
        EDGE.of(GIVING, "ahead of that");
        // Behind the final only the rest counts.
        fits("9 behind", oneStrip(100, 9, 109, 0), false);
        fits("10 behind", oneStrip(100, 9, 110, 0), true);
        fits("20 behind", oneStrip(100, 9, 120, 0), true);
        // Another final is a match like others for the later one.
        fits("a final 20 ahead", oneStrip(100, 9, 120, 9), false);
        fits("a final 21 ahead", oneStrip(100, 9, 121, 9), true);
        // Other strips are not spared.
        PitchSquare x = oneStrip(100, 0, 120, 9);
        x.strip();
        fits("20 ahead on another strip", x, true);
        EDGE.due("given(0)", x.given(0), 0);
        EDGE.due("given(1)", x.given(1), 1);
    }

    private static void sparedForRankNine() {
        EDGE.of(GIVING, "a MATCH of RANK 9");
        for (int rank = 0; rank <= 9; rank++) {
            fits("20 ahead of rank " + rank, oneStrip(100, 0, 120, rank), rank < 9);
            fits("rank " + rank + " is 20 ahead", oneStrip(100, rank, 120, 9), false);
            fits("rank " + rank + " is 21 ahead", oneStrip(100, rank, 121, 9), true);
        }
    }

    private static void restBesideSpared() {
        EDGE.of(GIVING, "and a STRIP on which a MATCH of RANK 9 is", "beside REST");
        PitchSquare x = oneStrip(100, 0, 130, 9);
        x.rests(31, 10);
        fits("30 ahead, rest 31, spared 10", x, false);
        x.rests(30, 10);
        fits("30 ahead, rest 30, spared 10", x, true);
        x.rests(30, 29);
        fits("30 ahead, rest 30, spared 29", x, true);
        x.rests(30, 30);
        fits("30 ahead, rest 30, spared 30", x, false);
        x.rests(0, 30);
        fits("30 ahead, rest 0, spared 30", x, false);
    }

    private static void firstSix() {
        EDGE.of(GIVING, "to each MATCH a STRIP of the first six");
        for (int strips = 5; strips <= 8; strips++) {
            PitchSquare x = Edge.led(Leads.strips(strips));
            x.match(100, 0);
            for (int strip = 0; strip < strips; strip++) {
                x.worth(0, strip, 50 + strip);
            }
            EDGE.due("give() of " + strips + " strips", x.give(), 50 + Math.min(strips - 1, 5));
            EDGE.due("given(0) of " + strips + " strips", x.given(0), Math.min(strips - 1, 5));
        }
        // As many matches in one week as there are strips to give, and one more.
        for (int strips = 1; strips <= 8; strips++) {
            PitchSquare x = Edge.led(Leads.strips(strips));
            int most = Math.min(strips, 6);
            for (int match = 1; match <= most; match++) {
                x.match(100 + match, 0);
                fits(match + " matches on " + strips + " strips", x, true);
            }
            x.match(100, 0);
            fits(most + 1 + " matches on " + strips + " strips", x, false);
        }
    }

    private static void toEachMatch() {
        EDGE.of(GIVING, "A GIVING: to each MATCH a STRIP");
        EDGE.due("give() of no matches, no strips", new PitchSquare().give(), 0);
        EDGE.due("give() of no matches", Edge.led(Leads.strips(8)).give(), 0);
        PitchSquare x = Edge.led(Leads.both(Leads.strips(1), Leads.matches(1)));
        x.worth(0, 0, 0);
        EDGE.due("give() of worth 0", x.give(), 0);
        EDGE.due("status()", x.status(), 0);
        EDGE.due("given(0)", x.given(0), 0);
        EDGE.due("status()", x.status(), 0);
    }

    private static void mostWorth() {
        EDGE.of(GIVING, "BEST: the most WORTH together");
        // One more together outweighs any order of strips.
        PitchSquare x = Edge.led(Leads.strips(6));
        for (int match = 0; match < 6; match++) {
            x.match(100 + match, 0);
        }
        EDGE.due("give()", x.give(), 300);
        x.worth(5, 0, 51);
        EDGE.due("give() with 51", x.give(), 301);
        EDGE.due("given(5) with 51", x.given(5), 0);
        EDGE.due("given(0) with 51", x.given(0), 1);
        EDGE.due("given(4) with 51", x.given(4), 5);
        x.worth(0, 0, 52);
        EDGE.due("give() with 52", x.give(), 302);
        EDGE.due("given(0) with 52", x.given(0), 0);
        EDGE.due("given(5) with 52", x.given(5), 5);
        // Together, not one by one: 60 and 50 beat 61 and 40.
        PitchSquare y = Edge.led(Leads.strips(2));
        y.match(100, 0);
        y.match(101, 0);
        y.worth(0, 0, 61);
        y.worth(0, 1, 60);
        y.worth(1, 0, 50);
        y.worth(1, 1, 40);
        EDGE.due("give()", y.give(), 110);
        EDGE.due("given(0)", y.given(0), 1);
        y.worth(1, 1, 49);
        EDGE.due("give()", y.give(), 110);
        EDGE.due("given(0): the same together", y.given(0), 0);
        y.worth(1, 1, 48);
        EDGE.due("given(0): one less", y.given(0), 1);
    }

    private static void givenAre(String what, PitchSquare x, int... want) {
        for (int match = 0; match < want.length; match++) {
            EDGE.due("given(" + match + ") " + what, x.given(match), want[match]);
        }
    }

    private static void firstByMatches() {
        EDGE.of(GIVING, "of several the first by MATCHES, the lesser STRIP");
        PitchSquare x = Edge.led(Leads.both(Leads.strips(8), Leads.matches(8)));
        givenAre("all alike", x, 0, 0, 0, 0, 0, 0, 0, 0);
        // All in one week but the last two: each the least that is left.
        PitchSquare y = Edge.led(Leads.strips(6));
        for (int match = 0; match < 8; match++) {
            y.match(match < 6 ? 105 - match : 200 + match, 0);
        }
        givenAre("by number, not by day", y, 0, 1, 2, 3, 4, 5, 0, 1);
        // Match 0 is asked first, even if all the others must step aside.
        PitchSquare z = Edge.led(Leads.strips(6));
        z.match(110, 0);
        z.match(100, 0);
        z.match(105, 0);
        givenAre("match 0 is last", z, 0, 0, 1);
        z.match(119, 0);
        givenAre("a fourth", z, 0, 0, 1, 1);
        z.match(95, 0);
        givenAre("a fifth", z, 0, 0, 1, 1, 1);
    }

    private static void thereIsNone() {
        EDGE.of(P23, "6: there is none");
        Edge.Lead noStrips = Leads.matches(1);
        EDGE.refused(noStrips, "give() without strips", PitchSquare::give, Edge.NONE, 6);
        EDGE.refused(noStrips, "given(0) without strips", x -> x.given(0), Edge.NONE, 6);
        EDGE.taken(Leads.both(noStrips, Leads.strips(1)), "give() with a strip", PitchSquare::give,
                Edge.NONE);
        Edge.Lead crowded = Leads.both(Leads::square, x -> {
            for (int match = 0; match < 4; match++) {
                x.match(100 + match, 0);
            }
        });
        EDGE.refused(crowded, "give() of a crowded week", PitchSquare::give, Edge.NONE, 6);
        EDGE.refused(crowded, "given(0) of a crowded week", x -> x.given(0), Edge.NONE, 6);
        EDGE.refused(crowded, "given(6) of a crowded week", x -> x.given(6), Edge.NONE, 6);
        EDGE.taken(Leads.both(crowded, PitchSquare::strip), "give() with a strip more",
                PitchSquare::give, Edge.NONE);
        EDGE.taken(Leads.both(crowded, x -> x.rests(3, 20)), "give() with rests of 3",
                PitchSquare::give, Edge.NONE);
        EDGE.refused(Leads.both(crowded, x -> x.rests(4, 20)), "give() with rests of 4",
                PitchSquare::give, Edge.NONE, 6);
    }

    private static void worthTogether() {
        EDGE.of(P23, "WORTH of BEST GIVING together");
        PitchSquare x = Edge.led(Leads.both(Leads.strips(6), Leads.matches(8)));
        for (int match = 0; match < 8; match++) {
            EDGE.due("give()", x.give(), 400 + 50 * match);
            x.worth(match, 5, 100);
        }
        EDGE.due("give() of all at 100", x.give(), 800);
        givenAre("all at 100", x, 5, 5, 5, 5, 5, 5, 5, 5);
        PitchSquare y = Edge.led(Leads.both(Leads.strips(1), Leads.matches(8)));
        for (int match = 0; match < 8; match++) {
            y.worth(match, 0, 0);
        }
        EDGE.due("give() of all at 0", y.give(), 0);
        EDGE.due("status()", y.status(), 0);
    }

    private static void givenOfNoMatch() {
        EDGE.of(P24, "(1; 6)");
        EDGE.numbered(Leads::square, "given(#)", (x, match) -> x.given(match), Edge.NONE, 3);
        EDGE.numbered(Leads::full, "given(#)", (x, match) -> x.given(match), Edge.NONE, 8);
    }

    private static void givenAsThingsAre() {
        EDGE.of(P24, "The STRIP of a MATCH in BEST GIVING");
        PitchSquare x = Edge.led(Leads.both(Leads.strips(2), Leads.matches(2)));
        EDGE.due("given(1) without give()", x.given(1), 0);
        x.worth(1, 1, 51);
        EDGE.due("given(1) behind worth()", x.given(1), 1);
        x.worth(1, 1, 101);
        EDGE.due("given(1) behind a refused worth()", x.given(1), 1);
        x.worth(1, 1, 50);
        EDGE.due("given(1) behind worth()", x.given(1), 0);
        x.rests(31, 0);
        EDGE.due("given(1) behind rests()", x.given(1), 1);
        x.rests(30, 0);
        EDGE.due("given(1) behind rests()", x.given(1), 0);
        x.match(29, 0);
        EDGE.due("given(1) behind match()", x.given(1), 0);
        EDGE.due("given(2) behind match()", x.given(2), 1);
        x.match(31, 0);
        EDGE.due("give() of three matches on two strips", x.give(), Edge.NONE);
        EDGE.due("given(3) of three matches on two strips", x.given(3), Edge.NONE);
        x.strip();
        EDGE.due("given(3) behind strip()", x.given(3), 2);
        EDGE.due("give() behind strip()", x.give(), 200);
        x.worth(2, 2, 51);
        EDGE.due("given(2) behind worth() of the new strip", x.given(2), 2);
        EDGE.same("give() and given()", Leads.both(Leads::square, y -> {
            y.give();
            y.given(1);
        }), Leads::square, Probe.values());
    }
}
