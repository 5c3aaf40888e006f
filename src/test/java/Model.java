import java.util.ArrayDeque;
import java.util.ArrayList;
import java.util.Arrays;
import java.util.HashMap;
import java.util.HashSet;
import java.util.List;
import java.util.Map;
import java.util.Set;
import java.util.TreeSet;

/** The document once more, by trying all: slow, and written without a look at how the class does it. */
final class Model {
    static final int BAD = -1, NO = -2, FULL = -3, NONE = -4;
    private static final Map<Integer, List<String>> TRUE_PATTERNS = new HashMap<>();
    private static final Map<Integer, List<String>> LISTS = new HashMap<>();

    private String text = "";
    private String pattern = "531";
    private String another = "531";
    private final List<String> past = new ArrayList<>();
    private final List<String> kept = new ArrayList<>();

    // ---- patterns

    int write(int n, long v) {
        if (n < 1 || n > 8) {
            return BAD;
        }
        if (text.length() + n > 40) {
            return FULL;
        }
        StringBuilder bytes = new StringBuilder();
        long rest = v;
        for (int i = 0; i < n; i++) {
            bytes.append((char) (rest & 255));
            rest >>= 8;
        }
        text += bytes.reverse();
        return text.length();
    }

    int wipe() {
        int length = text.length();
        text = "";
        return length;
    }

    int fault() {
        if (text.isEmpty()) {
            return 0;
        }
        int place = 0;
        while (place < text.length() && place < 10 && "0123456789".indexOf(text.charAt(place)) >= 0) {
            place++;
        }
        return place == text.length() ? NONE : place;
    }

    int clash() {
        return fault() != NONE ? NO : clashOf(text);
    }

    int lay(int which) {
        if (which != 0 && which != 1) {
            return BAD;
        }
        if (clash() != NONE) {
            return NO;
        }
        if (which == 0) {
            pattern = text;
            past.clear();
        } else {
            another = text;
        }
        return text.length();
    }

    int toss(int which, int i) {
        if (which != 0 && which != 1 || i < 0) {
            return BAD;
        }
        String asked = which == 0 ? pattern : another;
        return i >= asked.length() ? NONE : height(asked, i);
    }

    int balls(int which) {
        return which != 0 && which != 1 ? BAD : ballsOf(which == 0 ? pattern : another);
    }

    int air(int t) {
        return t < 0 || t > 100000 ? BAD : airOf(pattern, t);
    }

    // ---- changes

    int turn(int k) {
        if (k < 0 || k >= pattern.length()) {
            return BAD;
        }
        return become(pattern.substring(k) + pattern.substring(0, k));
    }

    int backwards() {
        char[] row = new char[pattern.length()];
        for (int i = 0; i < row.length; i++) {
            row[row.length - 1 - (i + height(pattern, i)) % row.length] = pattern.charAt(i);
        }
        return become(new String(row));
    }

    int raise(int d) {
        if (d < -9 || d > 9) {
            return BAD;
        }
        StringBuilder row = new StringBuilder();
        for (int i = 0; i < pattern.length(); i++) {
            int h = height(pattern, i) + d;
            if (h < 0 || h > 9) {
                return NO;
            }
            row.append(h);
        }
        become(row.toString());
        return ballsOf(pattern);
    }

    int change(int i, int j) {
        if (i < 0 || j >= pattern.length() || i >= j) {
            return BAD;
        }
        String changed = changed(pattern, i, j);
        return changed == null ? NO : becomeAndTell(changed, i);
    }

    int undo() {
        if (past.isEmpty()) {
            return NO;
        }
        pattern = past.remove(past.size() - 1);
        return past.size();
    }

    // ---- balls, hands

    int cycle(int t) {
        int size = pattern.length();
        if (t < -1 || t >= size) {
            return BAD;
        }
        Set<Integer> cycles = new HashSet<>();
        for (int i = 0; i < size; i++) {
            if (height(pattern, i) > 0) {
                cycles.add(cycleOf(i));
            }
        }
        return t == -1 ? cycles.size() : cycleOf(t);
    }

    private int cycleOf(int t) {
        int bits = 0;
        for (int at = t; (bits >> at & 1) == 0; at = (at + height(pattern, at)) % pattern.length()) {
            bits |= 1 << at;
        }
        return bits;
    }

    int ball(int t) {
        if (t < 0 || t > 100000) {
            return BAD;
        }
        Map<Integer, Integer> coming = new HashMap<>();
        int balls = 0;
        int answer = NONE;
        for (int beat = 0; beat <= t; beat++) {
            Integer ball = coming.remove(beat);
            int h = height(pattern, beat % pattern.length());
            answer = NONE;
            if (h > 0) {
                if (ball == null) {
                    ball = balls++;
                }
                coming.put(beat + h, ball);
                answer = ball;
            }
        }
        return answer;
    }

    int hands(int n, int a, int b) {
        if (n < 1 || n > 5 || a < 0 || b < 0 || a >= n || b >= n) {
            return BAD;
        }
        int found = 0;
        for (int t = 0; t < pattern.length() * n; t++) {
            int h = height(pattern, t % pattern.length());
            if (h != 0 && t % n == a && (t + h) % n == b) {
                found++;
            }
        }
        return found;
    }

    // ---- all patterns

    private static boolean badList(int p, int b, int m) {
        return p < 1 || p > 8 || b < 1 || b > 6 || m < 1 || m > 9;
    }

    /** All true patterns of p throws 0 to 9, the lower ahead. */
    private static List<String> truePatterns(int p) {
        List<String> known = TRUE_PATTERNS.get(p);
        if (known == null) {
            known = new ArrayList<>();
            addTrue(new char[p], 0, 0, known);
            TRUE_PATTERNS.put(p, known);
        }
        return known;
    }

    private static void addTrue(char[] row, int i, int taken, List<String> found) {
        if (i == row.length) {
            found.add(new String(row));
            return;
        }
        for (int h = 0; h <= 9; h++) {
            int bit = 1 << (i + h) % row.length;
            if ((taken & bit) == 0) {
                row[i] = (char) ('0' + h);
                addTrue(row, i + 1, taken | bit, found);
            }
        }
    }

    static List<String> listed(int p, int b, int m) {
        List<String> known = LISTS.get(p * 100 + b * 10 + m);
        if (known != null) {
            return known;
        }
        List<String> found = new ArrayList<>();
        LISTS.put(p * 100 + b * 10 + m, found);
        for (String one : truePatterns(p)) {
            if (one.chars().sum() - '0' * p == b * p && one.chars().max().getAsInt() <= '0' + m) {
                found.add(one);
            }
        }
        return found;
    }

    long all(int p, int b, int m) {
        return badList(p, b, m) ? BAD : listed(p, b, m).size();
    }

    int nth(int p, int b, int m, long i) {
        if (badList(p, b, m) || i < 0) {
            return BAD;
        }
        List<String> list = listed(p, b, m);
        return i >= list.size() ? NONE : become(list.get((int) i));
    }

    long rank() {
        if (badList(pattern.length(), ballsOf(pattern), 9)) {
            return NO;
        }
        return listed(pattern.length(), ballsOf(pattern), 9).indexOf(pattern);
    }

    int next() {
        int rank = (int) rank();
        if (rank == NO) {
            return NO;
        }
        List<String> list = listed(pattern.length(), ballsOf(pattern), 9);
        return rank + 1 == list.size() ? NONE : become(list.get(rank + 1));
    }

    int prime() {
        return isPrime(pattern) ? 1 : 0;
    }

    private static boolean isPrime(String row) {
        Set<Integer> airs = new HashSet<>();
        for (int t = 0; t < row.length(); t++) {
            airs.add(airOf(row, t));
        }
        return airs.size() == row.length();
    }

    int primes(int p, int b, int m) {
        if (badList(p, b, m) || p > 6) {
            return BAD;
        }
        Set<String> rounds = new HashSet<>();
        for (String one : listed(p, b, m)) {
            if (isPrime(one)) {
                TreeSet<String> turned = new TreeSet<>();
                for (int k = 0; k < p; k++) {
                    turned.add(one.substring(k) + one.substring(0, k));
                }
                rounds.add(turned.first());
            }
        }
        return rounds.size();
    }

    int draw(int p, int b, int m, int z) {
        if (badList(p, b, m) || z < 0 || z > 9999) {
            return BAD;
        }
        List<String> list = listed(p, b, m);
        if (list.isEmpty()) {
            return NONE;
        }
        java.math.BigInteger x = java.math.BigInteger.valueOf(7919L * z + 1);
        java.math.BigInteger y = java.math.BigInteger.valueOf(6151L * z + 2);
        java.math.BigInteger by = java.math.BigInteger.valueOf(65521);
        java.math.BigInteger number = x.multiply(x).mod(by).multiply(by).add(y.multiply(y).mod(by));
        return become(list.get(number.mod(java.math.BigInteger.valueOf(list.size())).intValue()));
    }

    // ---- ways

    int in(int i) {
        return i < -1 ? BAD : tell(way(groundOf(ballsOf(pattern)), airOf(pattern, 0)), i);
    }

    int out(int k, int i) {
        if (k < 0 || k >= pattern.length() || i < -1) {
            return BAD;
        }
        return tell(way(airOf(pattern, k), groundOf(ballsOf(pattern))), i);
    }

    int across(int k, int i) {
        if (k < 0 || k >= pattern.length() || i < -1) {
            return BAD;
        }
        return tell(way(airOf(pattern, k), airOf(another, 0)), i);
    }

    private static int tell(String way, int i) {
        if (way == null) {
            return NONE;
        }
        return i == -1 ? way.length() : i >= way.length() ? NONE : way.charAt(i) - '0';
    }

    /** Rows by length, then by throws, each air left where it was met first. */
    private static String way(int from, int to) {
        Map<Integer, String> rows = new HashMap<>();
        ArrayDeque<Integer> open = new ArrayDeque<>();
        rows.put(from, "");
        open.add(from);
        while (!open.isEmpty() && !rows.containsKey(to)) {
            int air = open.poll();
            for (int h = 0; h <= 9; h++) {
                int later = later(air, h);
                if (later >= 0 && !rows.containsKey(later)) {
                    rows.put(later, rows.get(air) + h);
                    open.add(later);
                }
            }
        }
        return rows.get(to);
    }

    /** The air after a throw that is allowed on a way; -1: it is not. */
    private static int later(int air, int h) {
        boolean comes = air % 2 == 1;
        if (comes != (h > 0) || h > 0 && (air / 2 & 1 << h - 1) != 0) {
            return -1;
        }
        return air / 2 + (h > 0 ? 1 << h - 1 : 0);
    }

    int steps() {
        if (pattern.length() != another.length() || pattern.length() > 5) {
            return NO;
        }
        Map<String, Integer> far = new HashMap<>();
        ArrayDeque<String> open = new ArrayDeque<>();
        far.put(pattern, 0);
        open.add(pattern);
        while (!open.isEmpty()) {
            String row = open.poll();
            for (int i = 0; i < row.length(); i++) {
                for (int j = i + 1; j < row.length(); j++) {
                    String changed = changed(row, i, j);
                    if (changed != null && far.putIfAbsent(changed, far.get(row) + 1) == null) {
                        open.add(changed);
                    }
                }
            }
        }
        return far.getOrDefault(another, NONE);
    }

    // ---- slips

    int together(int k, int h) {
        if (k < 0 || k >= pattern.length() || h < 1 || h > 9 || height(pattern, k) == h) {
            return BAD;
        }
        if (height(pattern, k) == 0) {
            return NO;
        }
        for (int ago = 1; ago <= 20; ago++) {
            int other = height(pattern, Math.floorMod(k - ago, pattern.length()));
            if (other > 0 && other - ago == h) {
                return 1;
            }
        }
        return 0;
    }

    int mended(int k, int h) {
        int together = together(k, h);
        if (together < 0) {
            return together;
        }
        if (together == 1) {
            return NONE;
        }
        Set<Integer> airs = new HashSet<>(List.of(later(airOf(pattern, k), h)));
        for (int n = 1; n <= 9; n++) {
            Set<Integer> following = new HashSet<>();
            for (int air : airs) {
                for (int any = 0; any <= 9; any++) {
                    following.add(later(air, any));
                }
            }
            following.remove(-1);
            airs = following;
            if (airs.contains(airOf(pattern, k + n + 1))) {
                return n;
            }
        }
        return NONE;
    }

    int keep() {
        if (kept.size() == 2) {
            return FULL;
        }
        kept.add(pattern);
        return kept.size();
    }

    int back() {
        if (kept.isEmpty()) {
            return NO;
        }
        pattern = kept.remove(kept.size() - 1);
        past.clear();
        return kept.size();
    }

    int count(int what) {
        List<Integer> counts =
                List.of(pattern.length(), another.length(), past.size(), kept.size(), text.length());
        return what < 0 || what >= counts.size() ? BAD : counts.get(what);
    }

    String pattern() {
        return pattern;
    }

    private int become(String row) {
        return becomeAndTell(row, 0);
    }

    private int becomeAndTell(String row, int i) {
        past.add(pattern);
        if (past.size() > 8) {
            past.remove(0);
        }
        pattern = row;
        return height(row, i);
    }

    private static int height(String row, int i) {
        return row.charAt(i) - '0';
    }

    private static int ballsOf(String row) {
        return (row.chars().sum() - '0' * row.length()) / row.length();
    }

    private static int groundOf(int balls) {
        int air = 0;
        for (int k = 0; k < balls; k++) {
            air += 1 << k;
        }
        return air;
    }

    private static int clashOf(String row) {
        Set<Integer> numbers = new HashSet<>();
        for (int i = 0; i < row.length(); i++) {
            if (!numbers.add((i + height(row, i)) % row.length())) {
                return i;
            }
        }
        return NONE;
    }

    private static int airOf(String row, int t) {
        int air = 0;
        for (int beat = t - 30; beat < t; beat++) {
            int h = height(row, Math.floorMod(beat, row.length()));
            if (h > 0 && beat + h >= t) {
                air |= 1 << beat + h - t;
            }
        }
        return air;
    }

    private static String changed(String row, int i, int j) {
        int up = height(row, j) + j - i;
        int down = height(row, i) - (j - i);
        if (up > 9 || down < 0) {
            return null;
        }
        char[] figures = Arrays.copyOf(row.toCharArray(), row.length());
        figures[i] = (char) ('0' + up);
        figures[j] = (char) ('0' + down);
        return new String(figures);
    }
}
