import java.util.List;

/** What can be tried for all arguments, or for all patterns of few throws, against the model. */
public final class EveryPatternTest {
    private final Checks checks = new Checks();

    public static void main(String[] args) {
        EveryPatternTest test = new EveryPatternTest();
        test.listsOfAll();
        test.orderOfLists();
        for (int p = 1; p <= 3; p++) {
            test.answersOfAll(p);
        }
        test.stepsBetweenAll();
        test.checks.end();
    }

    /** all() and primes() for every p, b, m. */
    private void listsOfAll() {
        Model y = new Model();
        for (int p = 1; p <= 8; p++) {
            BallsInAir x = new BallsInAir();
            for (int b = 1; b <= 6; b++) {
                for (int m = 1; m <= 9; m++) {
                    String of = "(" + p + ", " + b + ", " + m + ")";
                    checks.same("all" + of, x.all(p, b, m), y.all(p, b, m));
                    checks.same("primes" + of, x.primes(p, b, m), y.primes(p, b, m));
                }
            }
        }
    }

    /** Every pattern of a list by nth(), its rank() and the next() one. */
    private void orderOfLists() {
        for (int p = 1; p <= 8; p++) {
            for (int b = 1; b <= 6; b++) {
                List<String> list = Model.listed(p, b, 9);
                int stride = 1 + list.size() / 400;
                for (int i = 0; i < list.size(); i += stride) {
                    BallsInAir x = new BallsInAir();
                    x.nth(p, b, 9, i);
                    isPattern(x, list.get(i));
                    checks.same("rank() of " + list.get(i), x.rank(), i);
                    boolean isLast = i + 1 == list.size();
                    checks.same("next() of " + list.get(i), x.next(), isLast ? -4 : list.get(i + 1).charAt(0) - '0');
                    isPattern(x, list.get(isLast ? i : i + 1));
                }
            }
        }
    }

    private void isPattern(BallsInAir x, String row) {
        checks.same("count(0) of " + row, x.count(0), row.length());
        for (int i = 0; i < row.length(); i++) {
            checks.same("toss(0, " + i + ") of " + row, x.toss(0, i), row.charAt(i) - '0');
        }
    }

    /** The answers about every text of p figures. */
    private void answersOfAll(int p) {
        int end = (int) Math.pow(10, p);
        for (int code = 0; code < end; code++) {
            BallsInAir x = new BallsInAir();
            Model y = new Model();
            String row = String.format("%0" + p + "d", code);
            for (int i = 0; i < p; i++) {
                x.write(1, row.charAt(i));
                y.write(1, row.charAt(i));
            }
            checks.same("clash() of " + row, x.clash(), y.clash());
            checks.same("lay(0) of " + row, x.lay(0), y.lay(0));
            if (y.pattern().equals(row)) {
                answersOf(x, y, row);
            }
        }
    }

    private void answersOf(BallsInAir x, Model y, String row) {
        checks.same("prime() of " + row, x.prime(), y.prime());
        for (int t = 0; t < 40; t++) {
            checks.same("air(" + t + ") of " + row, x.air(t), y.air(t));
            checks.same("ball(" + t + ") of " + row, x.ball(t), y.ball(t));
        }
        for (int i = -2; i < 10; i++) {
            checks.same("in(" + i + ") of " + row, x.in(i), y.in(i));
            for (int k = -1; k <= row.length(); k++) {
                checks.same("out(" + k + ", " + i + ") of " + row, x.out(k, i), y.out(k, i));
                checks.same("across(" + k + ", " + i + ") of " + row, x.across(k, i), y.across(k, i));
                checks.same("together(" + k + ", " + i + ") of " + row, x.together(k, i), y.together(k, i));
                checks.same("mended(" + k + ", " + i + ") of " + row, x.mended(k, i), y.mended(k, i));
            }
        }
        for (int k = -2; k <= row.length(); k++) {
            checks.same("cycle(" + k + ") of " + row, x.cycle(k), y.cycle(k));
        }
        for (int n = 1; n <= 5; n++) {
            for (int a = 0; a < n; a++) {
                for (int b = 0; b < n; b++) {
                    String call = "hands(" + n + ", " + a + ", " + b + ") of " + row;
                    checks.same(call, x.hands(n, a, b), y.hands(n, a, b));
                }
            }
        }
    }

    /** steps() between patterns of three throws, and from some of five to all of five that have as many balls. */
    private void stepsBetweenAll() {
        for (int p = 3; p <= 5; p++) {
            for (int b = 1; b <= 6; b++) {
                List<String> list = Model.listed(p, b, 9);
                int stride = p == 3 ? 1 : 1 + list.size() / 6;
                for (int i = 0; i < list.size(); i += stride) {
                    stepsFrom(list.get(i), list);
                }
            }
        }
    }

    private void stepsFrom(String from, List<String> list) {
        BallsInAir x = new BallsInAir();
        Model y = new Model();
        for (int i = 0; i < list.size(); i++) {
            // An object is promised to answer 512 calls: fifty times wipe, write, lay and steps stay below that.
            if (i % 50 == 0) {
                x = new BallsInAir();
                layBoth(x, y, 0, from);
            }
            layBoth(x, y, 1, list.get(i));
            checks.same("steps() from " + from + " to " + list.get(i), x.steps(), y.steps());
        }
    }

    private static void layBoth(BallsInAir x, Model y, int which, String row) {
        x.wipe();
        y.wipe();
        for (int i = 0; i < row.length(); i++) {
            x.write(1, row.charAt(i));
            y.write(1, row.charAt(i));
        }
        x.lay(which);
        y.lay(which);
    }
}
