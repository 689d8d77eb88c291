import java.math.BigInteger;
import java.util.ArrayList;
import java.util.Arrays;
import java.util.List;
import java.util.regex.Matcher;
import java.util.regex.Pattern;

/**
 * The document once more, by the longest way round and with the Java library, to compare with.
 * Every call gives its answer as a number and leaves its status in {@link #status}.
 */
final class PlainSquare {
    int status = 0;
    int day = 0;
    long upper = 0;
    long lower = 1;
    private final List<int[]> strips = new ArrayList<>();
    private final List<Integer> works = new ArrayList<>();
    private final List<Integer> balls = new ArrayList<>();
    private final int[][] foretold = new int[1000][2];
    private final int[][] came = new int[1000][2];
    private final List<int[]> measures = new ArrayList<>();
    private int[] plan = null;
    private final StringBuilder tape = new StringBuilder();
    private List<List<String>> rules = new ArrayList<>();
    private int[] fault = {-1, -1};
    private final List<int[]> matches = new ArrayList<>();
    private final int[][] worth = new int[8][8];
    private int rest = 10;
    private int spared = 20;
    private final List<int[]> marks = new ArrayList<>();

    PlainSquare() {
        for (int[] row : worth) {
            Arrays.fill(row, 50);
        }
    }

    private long say(int newStatus, long answer, long refusal) {
        status = newStatus;
        return newStatus == 0 ? answer : refusal;
    }

    private boolean noStrip(int strip) {
        return strip < 0 || strip >= strips.size();
    }

    private boolean noMatch(int match) {
        return match < 0 || match >= matches.size();
    }

    private static boolean bad(int number, int least, int most) {
        return number < least || number > most;
    }

    long strip() {
        if (strips.size() == 8) {
            return say(3, 0, -1);
        }
        strips.add(new int[] {40, 40, 40, 12, 30, 0});
        works.add(0);
        balls.add(0);
        return say(0, strips.size() - 1, -1);
    }

    long set(int strip, int[] state) {
        if (noStrip(strip)) {
            return say(1, 0, 0);
        }
        int[] most = {100, 100, 100, 60, 100, 100};
        for (int i = 0; i < 6; i++) {
            if (bad(state[i], 0, most[i])) {
                return say(2, 0, 0);
            }
        }
        strips.set(strip, state.clone());
        return say(0, 1, 0);
    }

    long told(int strip, int what) {
        if (noStrip(strip)) {
            return say(1, 0, -1);
        }
        if (bad(what, 0, 6)) {
            return say(2, 0, -1);
        }
        int[] s = strips.get(strip);
        return say(0, what == 6 ? bounce(s) : s[what], -1);
    }

    private static int bounce(int[] s) {
        int b = s[4] - Math.floorDiv(s[5], 4);
        b -= s[0] > 50 ? Math.floorDiv(s[0] - 50, 2) : 0;
        b -= s[3] > 10 ? Math.floorDiv(s[3] - 10, 4) : 0;
        return b < 0 ? 0 : b;
    }

    private static int clip(int x, int most) {
        return x < 0 ? 0 : x > most ? most : x;
    }

    private static int[] next(int[] old, int rainToday, int sunToday, String done, int played) {
        int[] s = old.clone();
        int rain = done.contains("C") ? 0 : rainToday;
        int sun = done.contains("C") ? sunToday / 2 : sunToday;
        s[0] = clip(s[0] + rain, 100);
        if (done.contains("W")) {
            s[0] = clip(s[0] + 8, 100);
        }
        for (int layer = 0; layer < 2; layer++) {
            if (s[layer] > s[layer + 1]) {
                int d = (s[layer] - s[layer + 1]) / 4;
                s[layer] -= d;
                s[layer + 1] += d;
            }
        }
        s[2] -= s[2] / 10;
        s[0] = clip(s[0] - (sun + s[3] / 12), 100);
        s[1] = clip(s[1] - s[3] / 20, 100);
        boolean good = s[0] >= 25 && s[0] <= 60 && s[1] <= 70;
        if (done.contains("R") && good) {
            s[4] = clip(s[4] + 1 + (100 - s[4]) / 8, 100);
        }
        if (done.contains("R") && !good && s[0] > 60) {
            s[4] = clip(s[4] - 6, 100);
        }
        if (s[0] > 70) {
            s[4] = clip(s[4] - 1, 100);
        }
        if (s[5] <= 50) {
            int more = s[1] >= 20 && s[1] <= 80 ? 2 : s[1] >= 10 && s[1] <= 90 ? 1 : -1;
            s[3] = clip(s[3] + more, 60);
        }
        if (done.contains("M") && s[3] > 6) {
            s[3] = 6;
        }
        if (done.contains("S") && played == 0) {
            s[5] = clip(s[5] - 3, 100);
        }
        s[5] = clip(s[5] + played / 40, 100);
        s[4] = clip(s[4] - played / 200, 100);
        return s;
    }

    private static String letters(int works) {
        StringBuilder letters = new StringBuilder();
        for (int i = 0; i < 5; i++) {
            if ((works >> i) % 2 == 1) {
                letters.append("CRMWS".charAt(i));
            }
        }
        return letters.toString();
    }

    long weather(int onDay, int rain, int sun, boolean itCame) {
        if (bad(onDay, 0, 999) || bad(rain, 0, 100) || bad(sun, 0, 20)) {
            return say(2, 0, 0);
        }
        if (onDay < day) {
            return say(4, 0, 0);
        }
        (itCame ? came : foretold)[onDay] = new int[] {rain, sun};
        return say(0, 1, 0);
    }

    long work(int strip, int sum) {
        if (noStrip(strip)) {
            return say(1, 0, 0);
        }
        if (bad(sum, 0, 31)) {
            return say(2, 0, 0);
        }
        works.set(strip, sum);
        return say(0, 1, 0);
    }

    long play(int strip, int many) {
        if (noStrip(strip)) {
            return say(1, 0, 0);
        }
        if (many < 0 || (long) many + balls.get(strip) > 1000) {
            return say(2, 0, 0);
        }
        balls.set(strip, balls.get(strip) + many);
        return say(0, 1, 0);
    }

    long step() {
        if (day == 999) {
            return say(6, 0, -1);
        }
        for (int i = 0; i < strips.size(); i++) {
            int[] sky = came[day];
            strips.set(i, next(strips.get(i), sky[0], sky[1], letters(works.get(i)), balls.get(i)));
            works.set(i, 0);
            balls.set(i, 0);
        }
        day++;
        return say(0, day, -1);
    }

    long day() {
        return say(0, day, -1);
    }

    long measure(int strip, int onDay, int number) {
        if (noStrip(strip)) {
            return say(1, 0, 0);
        }
        if (bad(onDay, 0, 999) || bad(number, 0, 100)) {
            return say(2, 0, 0);
        }
        if (measures.size() == 200) {
            return say(3, 0, 0);
        }
        measures.add(new int[] {strip, onDay, number});
        return say(0, 1, 0);
    }

    /** A fraction as upper and lower number, not yet in lowest terms; null if there is none. */
    private BigInteger[] meanOf(int strip, int onDay) {
        long sum = 0;
        long many = 0;
        for (int[] m : measures) {
            if (m[0] == strip && m[1] == onDay) {
                sum += m[2];
                many++;
            }
        }
        return many == 0 ? null : fraction(sum, many);
    }

    private static BigInteger[] fraction(long up, long low) {
        return new BigInteger[] {BigInteger.valueOf(up), BigInteger.valueOf(low)};
    }

    private static BigInteger[] plus(BigInteger[] a, BigInteger[] b) {
        return new BigInteger[] {a[0].multiply(b[1]).add(b[0].multiply(a[1])), a[1].multiply(b[1])};
    }

    private static BigInteger[] times(BigInteger[] a, BigInteger[] b) {
        return new BigInteger[] {a[0].multiply(b[0]), a[1].multiply(b[1])};
    }

    private void tell(BigInteger[] f) {
        BigInteger common = f[0].gcd(f[1]);
        upper = f[0].divide(common).longValueExact();
        lower = f[1].divide(common).longValueExact();
    }

    long reads(int strip, int onDay) {
        if (noStrip(strip)) {
            return say(1, 0, 0);
        }
        if (bad(onDay, 0, 999)) {
            return say(2, 0, 0);
        }
        BigInteger[] own = meanOf(strip, onDay);
        int left = strip - 1;
        while (left >= 0 && meanOf(left, onDay) == null) {
            left--;
        }
        int right = strip + 1;
        while (right < 8 && meanOf(right, onDay) == null) {
            right++;
        }
        if (own != null) {
            tell(own);
        } else if (left >= 0 && right < 8) {
            // From the left one on, a part of the way to the right one.
            BigInteger[] from = meanOf(left, onDay);
            BigInteger[] way = plus(meanOf(right, onDay), times(from, fraction(-1, 1)));
            tell(plus(from, times(way, fraction(strip - left, right - left))));
        } else if (left >= 0) {
            tell(meanOf(left, onDay));
        } else if (right < 8) {
            tell(meanOf(right, onDay));
        } else {
            return say(5, 0, 0);
        }
        return say(0, 1, 0);
    }

    long plan(int strip, int n, int covers, int rolls) {
        if (noStrip(strip)) {
            return say(1, 0, -1);
        }
        if (bad(n, 1, 6) || bad(covers, 0, 6) || bad(rolls, 0, 6)) {
            return say(2, 0, -1);
        }
        if (day + n > 999) {
            return say(6, 0, -1);
        }
        int best = -1;
        int fewest = 0;
        for (int code = 0; code < 1 << (2 * n); code++) {
            int[] steps = new int[n];
            int covered = 0;
            int rolled = 0;
            for (int k = 0; k < n; k++) {
                steps[k] = code >> (2 * (n - 1 - k)) & 3;
                covered += steps[k] % 2;
                rolled += steps[k] / 2;
            }
            if (covered > covers || rolled > rolls) {
                continue;
            }
            int[] s = strips.get(strip);
            for (int k = 0; k < n; k++) {
                int[] sky = foretold[day + k];
                s = next(s, sky[0], sky[1], letters(steps[k]), 0);
            }
            int b = bounce(s);
            if (b > best || b == best && covered + rolled < fewest) {
                best = b;
                fewest = covered + rolled;
                plan = steps;
            }
        }
        return say(0, best, -1);
    }

    long planned(int k) {
        if (plan == null || k < 0 || k >= plan.length) {
            return say(5, 0, -1);
        }
        return say(0, plan[k], -1);
    }

    long feed(int[] words) {
        if (tape.length() + 20 > 400) {
            return -1;
        }
        for (int word : words) {
            for (byte b : BigInteger.valueOf(word & 0xffffffffL | 1L << 32).toByteArray()) {
                tape.append((char) (b & 255));
            }
            // The leading 1 keeps all four bytes; it is taken off again.
            tape.deleteCharAt(tape.length() - 5);
        }
        return tape.length();
    }

    long rules(int n) {
        if (n < 0 || n > tape.length()) {
            return say(2, 0, -1);
        }
        String text = tape.substring(0, n);
        tape.setLength(0);
        List<List<String>> found = new ArrayList<>();
        fault = firstFault(text, found);
        if (fault[0] != 0) {
            return say(8, 0, -1);
        }
        rules = found;
        return say(0, found.size(), -1);
    }

    private static final Pattern TOKEN = Pattern.compile("[\\n ]*([a-z]+|[0-9]+|[<>=;]|.)",
            Pattern.DOTALL);
    private static final Pattern WHAT =
            Pattern.compile("bounce|first|second|third|grass|hard|wear|rain");

    /** Fills in the rules, each as its name and then what, sign and number of every test. */
    private static int[] firstFault(String text, List<List<String>> found) {
        Matcher matcher = TOKEN.matcher(text);
        List<String> names = new ArrayList<>();
        // What the rule has so far: n(ame), w(hen), t (what), c(ompares), d (number), a(nd).
        String shape = "";
        List<String> rule = new ArrayList<>();
        while (matcher.lookingAt()) {
            String token = matcher.group(1);
            int at = matcher.start(1);
            if (token.matches("[\\n ]")) {
                break;
            }
            if (!token.matches("[a-z]+|[0-9]{1,3}|[<>=;]")) {
                return new int[] {1, at};
            }
            String kind = "";
            if (shape.isEmpty() && token.matches("[a-z]{1,8}")) {
                kind = "n";
            } else if (shape.equals("n") && token.equals("when")) {
                kind = "w";
            } else if (shape.matches(".*[wa]") && WHAT.matcher(token).matches()) {
                kind = "t";
            } else if (shape.endsWith("t") && token.matches("[<>=]")) {
                kind = "c";
            } else if (shape.endsWith("c") && token.matches("[0-9]+")) {
                kind = "d";
            } else if (shape.endsWith("d") && token.equals("and")) {
                kind = "a";
            } else if (shape.endsWith("d") && token.equals(";")) {
                kind = ";";
            } else {
                return new int[] {2, at};
            }
            boolean seventh = kind.equals("t") && rule.size() == 1 + 6 * 3;
            if (kind.equals("n") && names.size() == 8 || seventh) {
                return new int[] {3, at};
            }
            if (kind.equals("n") && names.contains(token)) {
                return new int[] {4, at};
            }
            if (kind.equals("n")) {
                names.add(token);
            }
            if (kind.matches("[ntcd]")) {
                rule.add(token);
            }
            shape += kind;
            if (kind.equals(";")) {
                found.add(rule);
                rule = new ArrayList<>();
                shape = "";
            }
            matcher.region(matcher.end(), text.length());
        }
        return shape.isEmpty() ? new int[] {0, -1} : new int[] {2, text.length()};
    }

    long fault(int what) {
        return what == 0 || what == 1 ? fault[what] : -1;
    }

    private int rated(int[] s, int rain) {
        List<String> whats = List.of("first", "second", "third", "grass", "hard", "wear");
        for (int i = 0; i < rules.size(); i++) {
            boolean all = true;
            List<String> rule = rules.get(i);
            for (int t = 1; t < rule.size(); t += 3) {
                String what = rule.get(t);
                int value = what.equals("rain") ? rain
                        : what.equals("bounce") ? bounce(s) : s[whats.indexOf(what)];
                int sign = Integer.signum(value - Integer.parseInt(rule.get(t + 2)));
                all &= sign == "<=>".indexOf(rule.get(t + 1)) - 1;
            }
            if (all) {
                return i;
            }
        }
        return -1;
    }

    long rate(int strip) {
        if (noStrip(strip)) {
            return say(1, 0, -1);
        }
        int rule = rated(strips.get(strip), foretold[day][0]);
        return rule < 0 ? say(5, 0, -1) : say(0, rule, -1);
    }

    long when(int strip, int rule, int many) {
        if (noStrip(strip)) {
            return say(1, 0, -1);
        }
        if (rule < 0 || rule >= rules.size() || bad(many, 1, 60)) {
            return say(2, 0, -1);
        }
        if (day + many > 999) {
            return say(6, 0, -1);
        }
        int[] s = strips.get(strip);
        for (int i = 0; i < many; i++) {
            int[] sky = foretold[day + i];
            if (rated(s, sky[0]) == rule) {
                return say(0, day + i, -1);
            }
            s = next(s, sky[0], sky[1], "", 0);
        }
        return say(5, 0, -1);
    }

    long match(int onDay, int rank) {
        if (bad(onDay, 0, 999) || bad(rank, 0, 9)) {
            return say(2, 0, -1);
        }
        if (matches.size() == 8) {
            return say(3, 0, -1);
        }
        for (int[] m : matches) {
            if (m[0] == onDay) {
                return say(7, 0, -1);
            }
        }
        matches.add(new int[] {onDay, rank});
        return say(0, matches.size() - 1, -1);
    }

    long worth(int match, int strip, int number) {
        if (noMatch(match) || noStrip(strip)) {
            return say(1, 0, 0);
        }
        if (bad(number, 0, 100)) {
            return say(2, 0, 0);
        }
        worth[match][strip] = number;
        return say(0, 1, 0);
    }

    long rests(int newRest, int newSpared) {
        if (bad(newRest, 0, 60) || bad(newSpared, 0, 100)) {
            return say(2, 0, 0);
        }
        rest = newRest;
        spared = newSpared;
        return say(0, 1, 0);
    }

    private int bestTotal;
    private int[] bestGiving;

    private void tryGivings(int[] giving, int m, int total) {
        if (m == matches.size()) {
            if (total > bestTotal) {
                bestTotal = total;
                bestGiving = giving.clone();
            }
            return;
        }
        for (int strip = 0; strip < Math.min(6, strips.size()); strip++) {
            giving[m] = strip;
            boolean fine = true;
            for (int other = 0; other < m; other++) {
                fine &= giving[other] != strip || canShare(matches.get(m), matches.get(other));
            }
            if (fine) {
                tryGivings(giving, m + 1, total + worth[m][strip]);
            }
        }
    }

    private boolean canShare(int[] a, int[] b) {
        int[] early = a[0] < b[0] ? a : b;
        int[] late = a[0] < b[0] ? b : a;
        boolean rested = late[0] - early[0] >= rest;
        boolean inSparedDays = late[1] == 9 && early[0] >= late[0] - spared;
        return rested && !inSparedDays;
    }

    private void findGiving() {
        bestTotal = -1;
        bestGiving = null;
        tryGivings(new int[8], 0, 0);
    }

    long give() {
        findGiving();
        return bestGiving == null ? say(6, 0, -1) : say(0, bestTotal, -1);
    }

    long given(int match) {
        if (noMatch(match)) {
            return say(1, 0, -1);
        }
        findGiving();
        return bestGiving == null ? say(6, 0, -1) : say(0, bestGiving[match], -1);
    }

    long mark(int match, int result, int number) {
        if (noMatch(match)) {
            return say(1, 0, 0);
        }
        if (bad(result, 0, 2) || bad(number, 0, 10)) {
            return say(2, 0, 0);
        }
        if (marks.size() == 100) {
            return say(3, 0, 0);
        }
        marks.add(new int[] {match, result, number});
        return say(0, 1, 0);
    }

    private BigInteger[] partOf(int result) {
        long sum = 0;
        long many = 0;
        long all = 0;
        for (int[] m : marks) {
            all += m[2];
            if (m[1] == result) {
                sum += m[2];
                many++;
            }
        }
        return many == 0 ? fraction(0, 1) : plus(fraction(sum, many), fraction(-all, marks.size()));
    }

    long part(int result) {
        if (bad(result, 0, 2)) {
            return say(2, 0, 0);
        }
        tell(partOf(result));
        return say(0, 1, 0);
    }

    long fair(int match) {
        if (noMatch(match)) {
            return say(1, 0, 0);
        }
        BigInteger[] sum = fraction(0, 1);
        long many = 0;
        for (int[] m : marks) {
            if (m[0] == match) {
                sum = plus(sum, plus(fraction(m[2], 1), times(fraction(-1, 1), partOf(m[1]))));
                many++;
            }
        }
        if (many == 0) {
            return say(5, 0, 0);
        }
        tell(times(sum, fraction(1, many)));
        return say(0, 1, 0);
    }
}
