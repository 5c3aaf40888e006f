import java.util.Random;

/** Runs of calls on a new object, not more than it is promised to answer, each answer compared with the model's. */
public final class RandomRunsTest {
    private static final int[] WILD = {
        Integer.MIN_VALUE, Integer.MAX_VALUE, -100, -10, -3, -2, -1, 10, 11, 40, 511, 512, 100000, 100001
    };

    private static final int MOST_CALLS = 512;
    // So many are made at the most between two looks at how many were made.
    private static final int MOST_AT_ONCE = 40;

    private final Checks checks = new Checks();
    private final Random random;
    private BallsInAir x;
    private Model y;
    private int run;
    private int calls;

    private RandomRunsTest(long seed) {
        random = new Random(seed);
    }

    public static void main(String[] args) {
        RandomRunsTest test = new RandomRunsTest(args.length > 0 ? Long.parseLong(args[0]) : 20261118L);
        int runs = args.length > 1 ? Integer.parseInt(args[1]) : 1200;
        for (test.run = 0; test.run < runs; test.run++) {
            test.x = new BallsInAir();
            test.y = new Model();
            test.calls = 0;
            while (test.calls <= MOST_CALLS - MOST_AT_ONCE) {
                test.callSome();
            }
        }
        test.checks.end();
    }

    private int number(int low, int high) {
        if (random.nextInt(25) == 0) {
            return WILD[random.nextInt(WILD.length)];
        }
        return low - (random.nextInt(20) == 0 ? 1 : 0) + random.nextInt(high - low + 1)
                + (random.nextInt(20) == 0 ? 1 : 0);
    }

    private int place() {
        return number(0, y.pattern().length() - 1);
    }

    private int listedThrows() {
        return number(1, random.nextInt(6) == 0 ? 8 : 6);
    }

    /** One call of the run. */
    private void same(String call, long got, long due) {
        calls++;
        checks.same("run " + run + ", pattern now " + y.pattern() + ": " + call, got, due);
    }

    private void layOne() {
        same("wipe()", x.wipe(), y.wipe());
        String row = random.nextInt(4) == 0 ? anyText() : trueText();
        for (int i = 0; i < row.length(); i++) {
            same("write(1)", x.write(1, row.charAt(i)), y.write(1, row.charAt(i)));
        }
        same("fault()", x.fault(), y.fault());
        same("clash()", x.clash(), y.clash());
        int which = number(0, 1);
        same("lay(" + which + ") of " + row, x.lay(which), y.lay(which));
    }

    private String anyText() {
        StringBuilder row = new StringBuilder();
        int size = random.nextInt(13);
        for (int i = 0; i < size; i++) {
            row.append((char) (random.nextInt(20) == 0 ? random.nextInt(256) : '0' + random.nextInt(10)));
        }
        return row.toString();
    }

    /** By a mixed row of places, so that it is true also for nine and ten throws. */
    private String trueText() {
        int size = 1 + random.nextInt(10);
        int[] places = new int[size];
        for (int i = 0; i < size; i++) {
            int j = random.nextInt(i + 1);
            places[i] = places[j];
            places[j] = i;
        }
        StringBuilder row = new StringBuilder();
        for (int i = 0; i < size; i++) {
            int h = Math.floorMod(places[i] - i, size);
            while (h + size <= 9 && random.nextInt(2) == 0) {
                h += size;
            }
            row.append(h);
        }
        return row.toString();
    }

    private void callSome() {
        switch (random.nextInt(8)) {
            case 0:
                layOne();
                break;
            case 1:
                callText();
                break;
            case 2:
            case 3:
                callChange();
                break;
            case 4:
                callBalls();
                break;
            case 5:
                callLists();
                break;
            case 6:
                callWays();
                break;
            default:
                callSlips();
                break;
        }
        same("count(2)", x.count(2), y.count(2));
        for (int i = 0; i <= 10; i++) {
            same("toss(0, " + i + ")", x.toss(0, i), y.toss(0, i));
        }
    }

    private void callText() {
        int n = number(1, 8);
        long v = random.nextLong();
        same("write(" + n + ", " + v + ")", x.write(n, v), y.write(n, v));
        same("fault()", x.fault(), y.fault());
        same("clash()", x.clash(), y.clash());
        int which = number(0, 1);
        int i = number(0, 9);
        same("toss(" + which + ", " + i + ")", x.toss(which, i), y.toss(which, i));
        same("balls(" + which + ")", x.balls(which), y.balls(which));
        same("lay(" + which + ")", x.lay(which), y.lay(which));
        int t = random.nextBoolean() ? number(0, 20) : number(0, 100000);
        same("air(" + t + ")", x.air(t), y.air(t));
    }

    private void callChange() {
        int i = place();
        int j = place();
        int d = number(-9, 9);
        switch (random.nextInt(8)) {
            case 0:
                same("turn(" + i + ")", x.turn(i), y.turn(i));
                break;
            case 1:
                same("backwards()", x.backwards(), y.backwards());
                break;
            case 2:
                same("raise(" + d + ")", x.raise(d), y.raise(d));
                break;
            case 3:
                same("raise(" + d / 5 + ")", x.raise(d / 5), y.raise(d / 5));
                break;
            case 4:
            case 5:
                same("change(" + i + ", " + j + ")", x.change(i, j), y.change(i, j));
                break;
            default:
                same("undo()", x.undo(), y.undo());
                break;
        }
    }

    private void callBalls() {
        int t = number(-1, y.pattern().length() - 1);
        same("cycle(" + t + ")", x.cycle(t), y.cycle(t));
        int beat = random.nextInt(10) > 0 ? number(0, 200) : number(0, 100000);
        same("ball(" + beat + ")", x.ball(beat), y.ball(beat));
        int n = number(1, 5);
        int a = number(0, 4);
        int b = number(0, 4);
        same("hands(" + n + ", " + a + ", " + b + ")", x.hands(n, a, b), y.hands(n, a, b));
    }

    private void callLists() {
        int p = listedThrows();
        int b = number(1, 6);
        int m = number(1, 9);
        String of = "(" + p + ", " + b + ", " + m;
        switch (random.nextInt(6)) {
            case 0:
                same("all" + of + ")", x.all(p, b, m), y.all(p, b, m));
                break;
            case 1:
                long total = Math.max(1, y.all(p, b, m));
                long i = random.nextInt(10) == 0 ? random.nextLong() : (long) (random.nextDouble() * (total + 2)) - 1;
                same("nth" + of + ", " + i + ")", x.nth(p, b, m, i), y.nth(p, b, m, i));
                break;
            case 2:
                same("next()", x.next(), y.next());
                break;
            case 3:
                int z = number(0, 9999);
                same("draw" + of + ", " + z + ")", x.draw(p, b, m, z), y.draw(p, b, m, z));
                break;
            case 4:
                same("primes" + of + ")", x.primes(p, b, m), y.primes(p, b, m));
                break;
            default:
                break;
        }
        same("rank()", x.rank(), y.rank());
        same("prime()", x.prime(), y.prime());
    }

    private void callWays() {
        int i = number(-1, 6);
        int k = place();
        same("in(" + i + ")", x.in(i), y.in(i));
        same("out(" + k + ", " + i + ")", x.out(k, i), y.out(k, i));
        same("across(" + k + ", " + i + ")", x.across(k, i), y.across(k, i));
        same("steps()", x.steps(), y.steps());
    }

    private void callSlips() {
        int k = place();
        int h = number(1, 9);
        same("together(" + k + ", " + h + ")", x.together(k, h), y.together(k, h));
        same("mended(" + k + ", " + h + ")", x.mended(k, h), y.mended(k, h));
        if (random.nextInt(3) == 0) {
            same("keep()", x.keep(), y.keep());
        } else if (random.nextInt(3) == 0) {
            same("back()", x.back(), y.back());
        }
        int what = number(0, 4);
        same("count(" + what + ")", x.count(what), y.count(what));
    }
}
