/**
 * Tests of the document's sentences that name a boundary. Each begins with {@link #of}, which names
 * the promise and the sentence; what is asked behind it is printed under that name if it is wrong.
 */
final class Edge {
    static final long NO = 0;
    static final long NONE = PitchSquare.NONE;

    /** Calls that lead a new object up to the boundary. */
    interface Lead {
        void on(PitchSquare x);
    }

    /** One call; a boolean answer counts 1 or 0. */
    interface Call {
        long on(PitchSquare x);
    }

    /** One call in which one number is tried. */
    interface NumberCall {
        long on(PitchSquare x, int number);
    }

    private final Check check = new Check();
    private String name = "";
    private int asked = 0;
    private int sentences = 0;

    /** The sentence is in the document's own words. */
    void of(String promise, String sentence) {
        endSentence();
        name = promise + " [" + sentence + "] ";
        sentences++;
    }

    /** One side of a sentence that has several. */
    void of(String promise, String sentence, String side) {
        of(promise, sentence);
        name = promise + " [" + sentence + "] " + side + ": ";
    }

    void due(String call, long got, long want) {
        asked++;
        check.due(name + call, got, want);
    }

    void yes(String call, boolean got) {
        due(call, number(got), 1);
    }

    void fraction(String call, PitchSquare x, long upper, long lower) {
        due("upper() behind " + call, x.upper(), upper);
        due("lower() behind " + call, x.lower(), lower);
    }

    /** The numbers that told() gives of a strip, from the first layer on. */
    void state(String call, PitchSquare x, int strip, int... want) {
        for (int what = 0; what < want.length; what++) {
            due("told(" + strip + ", " + what + ") behind " + call, x.told(strip, what), want[what]);
        }
    }

    /** The call is not refused: the answer is another than the refusal's, the status 0. */
    void taken(Lead lead, String call, Call made, long refusal) {
        PitchSquare x = led(lead);
        long answer = made.on(x);
        yes(call + " is taken", answer != refusal);
        due("status() behind " + call, x.status(), 0);
    }

    /** The call is refused: its answer, its status, and that nothing else has changed. */
    void refused(Lead lead, String call, Call made, long refusal, int status) {
        PitchSquare x = led(lead);
        due(call, made.on(x), refusal);
        due("status() behind " + call, x.status(), status);
        same(call, Leads.both(lead, made::on), lead, Probe.values());
    }

    /** Objects that are led along two ways answer the probes alike. */
    void same(String what, Lead one, Lead other, Probe... probes) {
        for (Probe probe : probes) {
            long[] got = probe.answers(led(one));
            long[] want = probe.answers(led(other));
            due("probe " + probe + " behind " + what + " differs at", difference(got, want), -1);
        }
    }

    /** Both ends of what a number may be: just outside, at the end, and just inside. */
    void ends(Lead lead, String call, NumberCall made, long refusal, int least, int most) {
        int[] outside = {Integer.MIN_VALUE, least - 1, most + 1, Integer.MAX_VALUE};
        for (int number : outside) {
            refused(lead, with(call, number), x -> made.on(x, number), refusal, 2);
        }
        int[] inside = {least, least + 1, most - 1, most};
        for (int number : inside) {
            taken(lead, with(call, number), x -> made.on(x, number), refusal);
        }
    }

    /** Strips or matches are numbered from 0 on, so many of them: beside these there is none. */
    void numbered(Lead lead, String call, NumberCall made, long refusal, int many) {
        int[] outside = {Integer.MIN_VALUE, -1, many, many + 1, Integer.MAX_VALUE};
        for (int number : outside) {
            refused(lead, with(call, number), x -> made.on(x, number), refusal, 1);
        }
        for (int number = 0; number < many; number++) {
            int one = number;
            taken(lead, with(call, number), x -> made.on(x, one), refusal);
        }
    }

    void end() {
        endSentence();
        System.out.println(sentences + " sentences");
        check.end();
    }

    /** A sentence under which nothing is asked is not tested. */
    private void endSentence() {
        if (sentences > 0 && asked == 0) {
            due("has questions", 0, 1);
        }
        asked = 0;
    }

    static PitchSquare led(Lead lead) {
        PitchSquare x = new PitchSquare();
        lead.on(x);
        return x;
    }

    static long number(boolean answer) {
        return answer ? 1 : 0;
    }

    private static String with(String call, int number) {
        return call.replace("#", String.valueOf(number));
    }

    private static int difference(long[] got, long[] want) {
        for (int i = 0; i < Math.max(got.length, want.length); i++) {
            if (i >= got.length || i >= want.length || got[i] != want[i]) {
                return i;
            }
        }
        return -1;
    }
}
