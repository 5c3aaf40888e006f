/** An object of the class on the bench, with what the tests by hand do to it again and again. */
abstract class Bench {
    static final int BAD = -1, NO = -2, FULL = -3, NONE = -4;
    static final int LOW = Integer.MIN_VALUE, HIGH = Integer.MAX_VALUE;

    final Checks checks = new Checks();
    BallsInAir x = new BallsInAir();

    void due(String call, long got, long want) {
        checks.same(call, got, want);
    }

    void fresh() {
        x = new BallsInAir();
    }

    static void write(BallsInAir to, String row) {
        for (int i = 0; i < row.length(); i++) {
            to.write(1, row.charAt(i));
        }
    }

    void text(String row) {
        x.wipe();
        write(x, row);
    }

    /** A new object with this pattern. */
    void start(String row) {
        fresh();
        text(row);
        due("lay(0) of " + row, x.lay(0), row.length());
    }

    void layAnother(String row) {
        text(row);
        due("lay(1) of " + row, x.lay(1), row.length());
    }

    /** All its throws, and that there are no more. */
    void isPattern(int which, String row) {
        for (int i = 0; i < row.length(); i++) {
            due("toss(" + which + ", " + i + ") of " + row, x.toss(which, i), row.charAt(i) - '0');
        }
        due("toss(" + which + ", " + row.length() + ") of " + row, x.toss(which, row.length()), NONE);
        due("count(" + which + ") of " + row, x.count(which), row.length());
    }
}
