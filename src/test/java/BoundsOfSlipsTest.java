/** Promises 29 to 33: each sentence that names a bound, a full shelf or a refusal, by itself. */
public final class BoundsOfSlipsTest extends Bench {
    private static final String TEN = "9000000001";

    public static void main(String[] args) {
        BoundsOfSlipsTest test = new BoundsOfSlipsTest();
        test.togetherByEachHeight();
        test.togetherByNine();
        test.togetherLeavesOutTheBallItself();
        test.slipsAtEachPlace();
        test.slipsAsItIs();
        test.slipsRefused();
        test.slipsAtAThrowByNone();
        test.mendedByOneToNine();
        test.mendedGoesRound();
        test.mendedOfNone();
        test.mendedIfNotTogether();
        test.keepTwo();
        test.keepOfOneAndTen();
        test.keepIsACopy();
        test.backTheLastFirst();
        test.backOfNothing();
        test.backAndWhatCanBeUndone();
        test.countFromNoneToFull();
        test.countRefused();
        test.checks.end();
    }

    // 29: "TOGETHER: 1, if one of the others in THE AIR then comes down when it does; 0."

    private void togetherByEachHeight() {
        for (int balls = 1; balls <= 9; balls++) {
            start("" + balls);
            for (int h = 1; h <= 9; h++) {
                int due = h == balls ? BAD : h < balls ? 1 : 0;
                due("together(0, " + h + ") of " + balls, x.together(0, h), due);
            }
        }
    }

    private void togetherByNine() {
        start("88888888");
        for (int k = 0; k < 8; k++) {
            due("together(" + k + ", 9)", x.together(k, 9), 0);
        }
        start("97");
        due("together(1, 9) of 97: none is thrown by 9 at beat 1 yet", x.together(1, 9), 0);
        due("together(1, 8) of 97: one is by 9 at beat 0", x.together(1, 8), 1);
    }

    private void togetherLeavesOutTheBallItself() {
        start("1");
        for (int h = 2; h <= 9; h++) {
            due("together(0, " + h + ") of 1", x.together(0, h), 0);
        }
        start("51");
        // Ahead of beat 0 balls are at 0, 1 and 3; ahead of beat 1 at 0, 2 and 4.
        int[] early = {1, 0, 1, 0, BAD, 0, 0, 0, 0};
        int[] late = {BAD, 1, 0, 1, 0, 0, 0, 0, 0};
        for (int h = 1; h <= 9; h++) {
            due("together(0, " + h + ") of 51", x.together(0, h), early[h - 1]);
            due("together(1, " + h + ") of 51", x.together(1, h), late[h - 1]);
        }
    }

    // "A SLIP: at BEAT k (0 to P less 1) a ball is thrown by h (1 to 9), which is not THROW k."

    private void slipsAtEachPlace() {
        start("3333333333");
        for (int k = 0; k <= 9; k++) {
            due("together(" + k + ", 4) of ten", x.together(k, 4), 0);
            due("mended(" + k + ", 4) of ten", x.mended(k, 4), 1);
        }
        due("together(10, 4) of ten", x.together(10, 4), BAD);
        due("mended(10, 4) of ten", x.mended(10, 4), BAD);
    }

    // "BAD (h as it is, too)"

    private void slipsAsItIs() {
        for (int h = 1; h <= 9; h++) {
            start("" + h);
            due("together(0, " + h + ") of " + h, x.together(0, h), BAD);
            due("mended(0, " + h + ") of " + h, x.mended(0, h), BAD);
        }
        start("531");
        due("together(1, 3) of 531", x.together(1, 3), BAD);
        due("mended(2, 1) of 531", x.mended(2, 1), BAD);
        due("together(1, 5) of 531: as another is", x.together(1, 5), 0);
    }

    private void slipsRefused() {
        for (String row : new String[] {"3", "51", "531", TEN}) {
            start(row);
            for (int k : new int[] {-1, row.length(), row.length() + 1, LOW, HIGH}) {
                due("together(" + k + ", 4) of " + row, x.together(k, 4), BAD);
                due("mended(" + k + ", 4) of " + row, x.mended(k, 4), BAD);
            }
            for (int h : new int[] {0, 10, -1, LOW, HIGH}) {
                due("together(0, " + h + ") of " + row, x.together(0, h), BAD);
                due("mended(0, " + h + ") of " + row, x.mended(0, h), BAD);
            }
        }
    }

    // "NO: THROW k is 0."

    private void slipsAtAThrowByNone() {
        start(TEN);
        for (int k = 1; k <= 8; k++) {
            for (int h = 1; h <= 9; h++) {
                due("together(" + k + ", " + h + ") of ten", x.together(k, h), NO);
                due("mended(" + k + ", " + h + ") of ten", x.mended(k, h), NO);
            }
            due("together(" + k + ", 0): BAD is ahead of NO", x.together(k, 0), BAD);
            due("mended(" + k + ", 0): BAD is ahead of NO", x.mended(k, 0), BAD);
            due("together(" + k + ", 10): BAD is ahead of NO", x.together(k, 10), BAD);
            due("mended(" + k + ", 10): BAD is ahead of NO", x.mended(k, 10), BAD);
        }
        start("60");
        // Ahead of beat 1 balls are at 1, 3 and 5: one would come down with it, so NO is ahead of NONE.
        due("mended(1, 3) of 60", x.mended(1, 3), NO);
    }

    // 30: "the fewest n (1 to 9) such that by n THROWS behind that one, as on a WAY, THE AIR is as THE PATTERN has it"

    private void mendedByOneToNine() {
        start("1");
        for (int h = 2; h <= 9; h++) {
            due("mended(0, " + h + ") of 1: until it comes down", x.mended(0, h), h - 1);
        }
        // Thrown at 1 it comes down at 10, is thrown by 1, and comes down at 11 as it would have.
        start("02");
        due("mended(1, 9) of 02", x.mended(1, 9), 9);
        due("mended(1, 8) of 02: ahead of 8 it is the one that comes down at 9", x.mended(1, 8), 6);
        due("mended(1, 1) of 02: at 2, by 1 to 3", x.mended(1, 1), 1);
        start("20");
        due("mended(0, 9) of 20", x.mended(0, 9), 9);
    }

    // "as THE PATTERN has it ahead of BEAT k, n and 1 together"

    private void mendedGoesRound() {
        start("531");
        // At beats 4, 5 and 6 balls come down then: by 3 and 3, at 4 and 5, they are at 6, 7 and 8 as ahead of beat 6.
        due("mended(2, 4) of 531", x.mended(2, 4), 3);
        // At beats 2, 5 and 6: none may be at 6 ahead of beats 3, 4 and 5, but ahead of 6, with others at 7 and 8.
        due("mended(1, 5) of 531", x.mended(1, 5), 4);
        start("51");
        // At beats 3, 4 and 5: by 4, at 3, they are at 4, 5 and 7 as ahead of beat 4.
        due("mended(1, 3) of 51", x.mended(1, 3), 2);
    }

    // "none (TOGETHER is 1, or there is none)"

    private void mendedOfNone() {
        start("3");
        due("mended(0, 1) of 3", x.mended(0, 1), NONE);
        due("mended(0, 2) of 3", x.mended(0, 2), NONE);
        due("mended(0, 4) of 3", x.mended(0, 4), 1);
        start("9");
        for (int h = 1; h <= 8; h++) {
            due("mended(0, " + h + ") of 9", x.mended(0, h), NONE);
        }
    }

    /** Where no two come down together a slip can always be mended: the ball goes on where one is missed then. */
    private void mendedIfNotTogether() {
        String[] rows = {"9000050006", "5555555555", "9753197531", "19", "1199", "99999300", "00888888", "97531", "123"};
        for (String row : rows) {
            start(row);
            isMendedIfNotTogether(row);
        }
    }

    private void isMendedIfNotTogether(String row) {
        for (int k = 0; k < row.length(); k++) {
            for (int h = 1; h <= 9; h++) {
                int together = x.together(k, h);
                int mended = x.mended(k, h);
                String call = "mended(" + k + ", " + h + ") of " + row;
                if (together == 0) {
                    due(call + " is 1 to 9", mended >= 1 && mended <= 9 ? 1 : 0, 1);
                } else {
                    due(call, mended, together == 1 ? NONE : together);
                }
            }
        }
    }

    // 31: "KEPT: how many. FULL." "2 at most"

    private void keepTwo() {
        fresh();
        due("keep() the first", x.keep(), 1);
        due("keep() the second", x.keep(), 2);
        due("keep() a third", x.keep(), FULL);
        due("count(3)", x.count(3), 2);
        due("back()", x.back(), 1);
        due("keep() again", x.keep(), 2);
        due("keep() a third again", x.keep(), FULL);
        x.turn(1);
        due("keep() a third, another pattern", x.keep(), FULL);
        due("back()", x.back(), 1);
        isPattern(0, "531");
        due("back()", x.back(), 0);
        isPattern(0, "531");
    }

    private void keepOfOneAndTen() {
        start(TEN);
        x.keep();
        text("0");
        x.lay(0);
        x.keep();
        text("531");
        x.lay(0);
        due("back() to one", x.back(), 1);
        isPattern(0, "0");
        due("back() to ten", x.back(), 0);
        isPattern(0, TEN);
    }

    private void keepIsACopy() {
        start("51");
        x.turn(1);
        x.keep();
        due("count(2) after keep()", x.count(2), 1);
        isPattern(0, "15");
        x.raise(1);
        isPattern(0, "26");
        due("undo() after keep()", x.undo(), 1);
        due("undo() over keep()", x.undo(), 0);
        isPattern(0, "51");
        due("count(3) after undo()", x.count(3), 1);
        due("back()", x.back(), 0);
        isPattern(0, "15");
    }

    // 32: "As KEPT last (it is KEPT no more then): how many are left; nothing can be UNDONE then. NO."

    private void backTheLastFirst() {
        start("1");
        x.keep();
        x.raise(1);
        x.keep();
        x.raise(1);
        due("back() to the second", x.back(), 1);
        isPattern(0, "2");
        due("count(3)", x.count(3), 1);
        x.raise(3);
        due("keep() another second", x.keep(), 2);
        due("back() to it", x.back(), 1);
        isPattern(0, "5");
        due("back() to the first", x.back(), 0);
        isPattern(0, "1");
        due("count(3)", x.count(3), 0);
        due("back() of no more", x.back(), NO);
        isPattern(0, "1");
        isPattern(1, "531");
    }

    private void backOfNothing() {
        fresh();
        x.turn(1);
        due("back() of nothing", x.back(), NO);
        isPattern(0, "315");
        due("count(2): what can be undone stays", x.count(2), 1);
        due("undo()", x.undo(), 0);
        isPattern(0, "531");
    }

    private void backAndWhatCanBeUndone() {
        fresh();
        x.keep();
        for (int i = 0; i < 9; i++) {
            x.turn(1);
        }
        due("count(2)", x.count(2), 8);
        due("back()", x.back(), 0);
        due("count(2) then", x.count(2), 0);
        due("undo() then", x.undo(), NO);
        isPattern(0, "531");
        x.turn(2);
        due("count(2) behind it", x.count(2), 1);
        due("undo() of what came behind", x.undo(), 0);
        isPattern(0, "531");
    }

    // 33: "0 THROWS of THE PATTERN, 1 of ANOTHER, 2 that can be UNDONE, 3 KEPT, 4 bytes of THE TEXT"

    private void countFromNoneToFull() {
        start("0");
        layAnother(TEN);
        due("count(0) of one", x.count(0), 1);
        due("count(1) of ten", x.count(1), 10);
        due("count(2) of nothing", x.count(2), 0);
        due("count(3) of nothing", x.count(3), 0);
        due("count(4)", x.count(4), 10);
        x.wipe();
        due("count(4) of nothing", x.count(4), 0);
        start(TEN);
        layAnother("9");
        for (int i = 0; i < 10; i++) {
            x.turn(1);
            x.keep();
        }
        for (int i = 0; i < 10; i++) {
            x.write(8, 0);
        }
        due("count(0) of ten", x.count(0), 10);
        due("count(1) of one", x.count(1), 1);
        due("count(2) of all", x.count(2), 8);
        due("count(3) of all", x.count(3), 2);
        due("count(4): 1 and four times 8", x.count(4), 33);
        due("write(7)", x.write(7, 0), 40);
        due("count(4) of all", x.count(4), 40);
    }

    private void countRefused() {
        fresh();
        for (int what : new int[] {-1, 5, LOW, HIGH}) {
            due("count(" + what + ")", x.count(what), BAD);
        }
    }
}
