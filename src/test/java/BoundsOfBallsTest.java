/** Promises 15 to 17: each sentence that names a bound, a wrap-around or a refusal, by itself. */
public final class BoundsOfBallsTest extends Bench {
    private static final String TEN = "9000000001";

    public static void main(String[] args) {
        BoundsOfBallsTest test = new BoundsOfBallsTest();
        test.cycleOfOne();
        test.cycleOfTen();
        test.cycleOfThrowsByNone();
        test.cycleGoesRound();
        test.cycleRefused();
        test.ballOfNone();
        test.ballOfNine();
        test.ballsInTheOrderOfTheirFirstThrows();
        test.ballUpToTheLastBeat();
        test.ballRefused();
        test.handsOfOneToFive();
        test.handsOverAllTheirBeats();
        test.handsLeaveOutThrowsByNone();
        test.handsRefused();
        test.checks.end();
    }

    // 15: "The CYCLE of a BEAT (0 to P less 1), as bits; how many CYCLES (t = -1)."

    private void cycleOfOne() {
        for (int h = 0; h <= 9; h++) {
            start("" + h);
            due("cycle(0) of " + h, x.cycle(0), 1);
            due("cycle(-1) of " + h, x.cycle(-1), h == 0 ? 0 : 1);
            due("cycle(1) of " + h, x.cycle(1), BAD);
            due("cycle(-2) of " + h, x.cycle(-2), BAD);
        }
    }

    private void cycleOfTen() {
        start(TEN);
        due("cycle(0) of ten", x.cycle(0), 0b1000000001);
        due("cycle(9) of ten", x.cycle(9), 0b1000000001);
        due("cycle(10) of ten", x.cycle(10), BAD);
        due("cycle(-1) of ten", x.cycle(-1), 1);
        start("5555555555");
        due("cycle(9) of ten by 5", x.cycle(9), 0b1000010000);
        due("cycle(-1) of ten by 5", x.cycle(-1), 5);
        start("1111111111");
        due("cycle(3) of ten by 1", x.cycle(3), 0b1111111111);
        due("cycle(-1) of ten by 1", x.cycle(-1), 1);
    }

    // "(of a THROW 0 of it alone)", "those of THROWS 0 left out"

    private void cycleOfThrowsByNone() {
        start(TEN);
        for (int t = 1; t <= 8; t++) {
            due("cycle(" + t + ") of a throw 0", x.cycle(t), 1 << t);
        }
        start("0000000000");
        due("cycle(9) of ten by 0", x.cycle(9), 0b1000000000);
        due("cycle(-1) of ten by 0", x.cycle(-1), 0);
        start("300");
        due("cycle(0) of 300: alone too, by 3", x.cycle(0), 1);
        due("cycle(-1) of 300: but counted", x.cycle(-1), 1);
    }

    private void cycleGoesRound() {
        start("531");
        due("cycle(0) of 531: 0 to 5, 2 to 3", x.cycle(0), 0b101);
        due("cycle(2) of 531", x.cycle(2), 0b101);
        due("cycle(1) of 531: 1 to 4", x.cycle(1), 0b010);
        start("97");
        due("cycle(0) of 97: 0 to 9, 1 to 8", x.cycle(0), 0b11);
        due("cycle(-1) of 97", x.cycle(-1), 1);
        start("9999");
        due("cycle(3) of 9999: 3 to 12, 0 to 9, 1 to 10, 2 to 11", x.cycle(3), 0b1111);
        start("8888");
        due("cycle(3) of 8888: 3 to 11", x.cycle(3), 0b1000);
        due("cycle(-1) of 8888", x.cycle(-1), 4);
    }

    private void cycleRefused() {
        fresh();
        for (int t : new int[] {-2, 3, 4, LOW, HIGH}) {
            due("cycle(" + t + ") of 531", x.cycle(t), BAD);
        }
        due("cycle(2) of 531", x.cycle(2), 0b101);
        due("cycle(-1) of 531", x.cycle(-1), 2);
    }

    // 16: "which is thrown at BEAT t (0 to 100000); none"

    private void ballOfNone() {
        start("0");
        due("ball(0) of 0", x.ball(0), NONE);
        due("ball(100000) of 0", x.ball(100000), NONE);
        start(TEN);
        due("ball(0) of ten", x.ball(0), 0);
        for (int t = 1; t <= 8; t++) {
            due("ball(" + t + ") of ten", x.ball(t), NONE);
        }
        due("ball(9) of ten", x.ball(9), 0);
        due("ball(10) of ten", x.ball(10), 0);
        due("ball(99998) of ten", x.ball(99998), NONE);
        due("ball(99999) of ten", x.ball(99999), 0);
        due("ball(100000) of ten", x.ball(100000), 0);
    }

    private void ballOfNine() {
        start("9");
        for (int t = 0; t <= 18; t++) {
            due("ball(" + t + ") of 9", x.ball(t), t % 9);
        }
        due("ball(99998) of 9", x.ball(99998), 8);
        due("ball(99999) of 9", x.ball(99999), 0);
        due("ball(100000) of 9", x.ball(100000), 1);
        start("1");
        due("ball(100000) of 1", x.ball(100000), 0);
    }

    // "BALLS are 0, 1, .. in the order in which they are thrown first, from BEAT 0 on"

    private void ballsInTheOrderOfTheirFirstThrows() {
        start("91");
        int[] balls = {0, 1, 1, 2, 2, 3, 3, 4, 4, 0};
        for (int t = 0; t < 20; t++) {
            due("ball(" + t + ") of 91", x.ball(t), balls[t % 10]);
        }
        // The ball of beat 0 is in the air at beat 5, so that a fifth one is new at beat 8 only.
        start("900");
        due("ball(0) of 900", x.ball(0), 0);
        due("ball(3) of 900", x.ball(3), 1);
        due("ball(6) of 900", x.ball(6), 2);
        due("ball(9) of 900", x.ball(9), 0);
        start("060");
        due("ball(0) of 060", x.ball(0), NONE);
        due("ball(1) of 060: the first is 0", x.ball(1), 0);
        due("ball(4) of 060", x.ball(4), 1);
        due("ball(7) of 060", x.ball(7), 0);
    }

    private void ballUpToTheLastBeat() {
        start("91");
        due("ball(99997) of 91", x.ball(99997), 4);
        due("ball(99998) of 91", x.ball(99998), 4);
        due("ball(99999) of 91", x.ball(99999), 0);
        due("ball(100000) of 91", x.ball(100000), 0);
        start("531");
        // Ball 1 alone is thrown by 3; 0 and 2 by 5 and 1: six beats.
        int[] balls = {0, 1, 2, 2, 1, 0};
        for (int t = 99990; t <= 100000; t++) {
            due("ball(" + t + ") of 531", x.ball(t), balls[t % 6]);
        }
    }

    private void ballRefused() {
        for (String row : new String[] {"531", "0", TEN}) {
            start(row);
            for (int t : new int[] {-1, 100001, LOW, HIGH}) {
                due("ball(" + t + ") of " + row, x.ball(t), BAD);
            }
        }
    }

    // 17: "By n HANDS (1 to 5) BEAT t is that of HAND t modulo n"

    private void handsOfOneToFive() {
        start("5");
        for (int n = 1; n <= 5; n++) {
            for (int a = 0; a < n; a++) {
                for (int b = 0; b < n; b++) {
                    String call = "hands(" + n + ", " + a + ", " + b + ") of 5";
                    due(call, x.hands(n, a, b), (a + 5) % n == b ? 1 : 0);
                }
            }
        }
        start("9");
        due("hands(5, 4, 3) of 9", x.hands(5, 4, 3), 1);
        due("hands(5, 4, 4) of 9", x.hands(5, 4, 4), 0);
    }

    // "of the THROWS at BEATS 0 to P n less 1"

    private void handsOverAllTheirBeats() {
        start(TEN);
        due("hands(1, 0, 0) of ten", x.hands(1, 0, 0), 2);
        due("hands(5, 0, 4) of ten: by 9 at 0, 10, 20, 30, 40", x.hands(5, 0, 4), 5);
        due("hands(5, 4, 0) of ten: by 1 at 9, 19, 29, 39, 49", x.hands(5, 4, 0), 5);
        due("hands(5, 0, 0) of ten", x.hands(5, 0, 0), 0);
        due("hands(5, 4, 4) of ten", x.hands(5, 4, 4), 0);
        start("9999999999");
        due("hands(1, 0, 0) of ten by 9", x.hands(1, 0, 0), 10);
        due("hands(5, 4, 3) of ten by 9", x.hands(5, 4, 3), 10);
        start("3");
        due("hands(2, 1, 0) of 3: at beat 1, the last", x.hands(2, 1, 0), 1);
        due("hands(2, 0, 1) of 3: at beat 0", x.hands(2, 0, 1), 1);
        start("531");
        due("hands(3, 2, 0) of 531: by 1 at 2, 5, 8", x.hands(3, 2, 0), 3);
        due("hands(3, 0, 2) of 531: by 5 at 0, 3, 6", x.hands(3, 0, 2), 3);
        due("hands(3, 1, 1) of 531: by 3 at 1, 4, 7", x.hands(3, 1, 1), 3);
    }

    // "that are not 0"

    private void handsLeaveOutThrowsByNone() {
        start("0");
        due("hands(1, 0, 0) of 0", x.hands(1, 0, 0), 0);
        due("hands(5, 4, 4) of 0", x.hands(5, 4, 4), 0);
        start("900000000");
        due("hands(1, 0, 0) of one in nine", x.hands(1, 0, 0), 1);
        due("hands(3, 0, 0) of one in nine", x.hands(3, 0, 0), 3);
        due("hands(3, 1, 1) of one in nine", x.hands(3, 1, 1), 0);
    }

    private void handsRefused() {
        fresh();
        for (int n : new int[] {0, 6, -1, LOW, HIGH}) {
            due("hands(" + n + ", 0, 0)", x.hands(n, 0, 0), BAD);
        }
        for (int n = 1; n <= 5; n++) {
            for (int wrong : new int[] {-1, n, LOW, HIGH}) {
                due("hands(" + n + ", " + wrong + ", 0)", x.hands(n, wrong, 0), BAD);
                due("hands(" + n + ", 0, " + wrong + ")", x.hands(n, 0, wrong), BAD);
                due("hands(" + n + ", " + wrong + ", " + wrong + ")", x.hands(n, wrong, wrong), BAD);
            }
        }
        due("hands(-1, -1, -1)", x.hands(-1, -1, -1), BAD);
        due("hands(6, 5, 5)", x.hands(6, 5, 5), BAD);
    }
}
