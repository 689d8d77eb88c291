import java.nio.charset.StandardCharsets;

/** Texts of rules on their way to the tape. */
final class Texts {
    static final String EIGHT_RULES = "a when rain=0;b when rain=0;c when rain=0;d when rain=0;"
            + "e when rain=0;f when rain=0;g when rain=0;h when rain=0;";

    private Texts() {
    }

    /** Feeds a text, padded by blanks to twenties. */
    static void feed(PitchSquare x, String text) {
        byte[] bytes = text.getBytes(StandardCharsets.ISO_8859_1);
        int[] words = new int[(bytes.length + 19) / 20 * 5];
        for (int i = 0; i < words.length * 4; i++) {
            int b = i < bytes.length ? bytes[i] & 255 : 32;
            words[i / 4] |= b << (24 - i % 4 * 8);
        }
        for (int i = 0; i < words.length; i += 5) {
            x.feed(words[i], words[i + 1], words[i + 2], words[i + 3], words[i + 4]);
        }
    }

    /** Feeds a text and has just its bytes read. */
    static int read(PitchSquare x, String text) {
        feed(x, text);
        return x.rules(text.length());
    }
}
