/** Promises 10 to 14: each sentence that names a bound, a wrap-around or a refusal, by itself. */
public final class BoundsOfChangesTest extends Bench {
    private static final String TEN = "9000000001";

    public static void main(String[] args) {
        BoundsOfChangesTest test = new BoundsOfChangesTest();
        test.turnByEachOfTen();
        test.turnOfOne();
        test.turnRefused();
        test.backwardsOfOne();
        test.backwardsGoesRound();
        test.raiseByEachNumber();
        test.raiseUpToNine();
        test.raiseDownToNone();
        test.raiseRefused();
        test.changeUpToNine();
        test.changeDownToNone();
        test.changeOfPlaces();
        test.changeOfTen();
        test.undoOfNothing();
        test.undoOfEight();
        test.undoGoesRound();
        test.undoAndChangesMixed();
        test.undoOfEachKind();
        test.undoWhereItStayed();
        test.undoLeavesOutTheRefused();
        test.undoOverLengths();
        test.upToTheLastCall();
        test.checks.end();
    }

    private void isUnchanged(String row) {
        isPattern(0, row);
        due("count(2) of " + row, x.count(2), 0);
    }

    private static String turned(String row, int k) {
        return row.substring(k) + row.substring(0, k);
    }

    // 10: "TURNED by k (0 to P less 1): THROW k becomes THROW 0, and so on round."

    private void turnByEachOfTen() {
        for (int k = 0; k < 10; k++) {
            start(TEN);
            due("turn(" + k + ") of " + TEN, x.turn(k), TEN.charAt(k) - '0');
            isPattern(0, turned(TEN, k));
            due("balls(0) turned", x.balls(0), 1);
        }
    }

    private void turnOfOne() {
        start("7");
        due("turn(0) of one", x.turn(0), 7);
        isPattern(0, "7");
        due("turn(1) of one", x.turn(1), BAD);
    }

    private void turnRefused() {
        String[] rows = {"7", "51", "531", TEN};
        for (String row : rows) {
            for (int k : new int[] {-1, row.length(), row.length() + 1, LOW, HIGH}) {
                start(row);
                due("turn(" + k + ") of " + row, x.turn(k), BAD);
                isUnchanged(row);
            }
        }
    }

    // 11: "THROW P less 1 less ((i and h together) modulo P) becomes h."

    private void backwardsOfOne() {
        for (int h = 0; h <= 9; h++) {
            start("" + h);
            due("backwards() of " + h, x.backwards(), h);
            isPattern(0, "" + h);
            due("count(2) then", x.count(2), 1);
        }
    }

    private void backwardsGoesRound() {
        start("1900000000");
        due("backwards(): 1 comes down at 1, 9 at 10", x.backwards(), 0);
        isPattern(0, "0000000019");
        due("backwards(): 1 comes down at 9, 9 at 18", x.backwards(), 1);
        isPattern(0, "1900000000");
        start("900000000");
        due("backwards(): 9 comes down at 9, modulo 9", x.backwards(), 0);
        isPattern(0, "000000009");
        start("97");
        due("backwards() of 97: at 9 and 8, modulo 2", x.backwards(), 9);
        isPattern(0, "97");
        start("06");
        due("backwards() of 06: at 0 and 7, modulo 2", x.backwards(), 6);
        isPattern(0, "60");
    }

    // 12: "RAISED by d (-9 to 9): each THROW becomes d more, if all are 0 to 9 then."

    private void raiseByEachNumber() {
        for (int h = 0; h <= 9; h++) {
            for (int d = -11; d <= 11; d++) {
                boolean isTold = d >= -9 && d <= 9;
                boolean fits = h + d >= 0 && h + d <= 9;
                start("" + h);
                due("raise(" + d + ") of " + h, x.raise(d), !isTold ? BAD : fits ? h + d : NO);
                isPattern(0, "" + (isTold && fits ? h + d : h));
                due("count(2) then", x.count(2), isTold && fits ? 1 : 0);
            }
        }
    }

    private void raiseUpToNine() {
        start("531");
        due("raise(4) of 531", x.raise(4), 7);
        isPattern(0, "975");
        start("531");
        due("raise(5) of 531: the first above 9", x.raise(5), NO);
        isUnchanged("531");
        start("153");
        due("raise(5) of 153: the second above 9", x.raise(5), NO);
        isUnchanged("153");
        start("000000009");
        due("raise(1): the last above 9", x.raise(1), NO);
        isUnchanged("000000009");
    }

    private void raiseDownToNone() {
        start("531");
        due("raise(-1) of 531", x.raise(-1), 2);
        isPattern(0, "420");
        start("531");
        due("raise(-2) of 531: the last below 0", x.raise(-2), NO);
        isUnchanged("531");
        start("060");
        due("raise(-1) of 060: the first below 0", x.raise(-1), NO);
        isUnchanged("060");
        start("9999999999");
        due("raise(-9) of ten", x.raise(-9), 0);
        isPattern(0, "0000000000");
        due("raise(9) of ten", x.raise(9), 9);
        isPattern(0, "9999999999");
    }

    private void raiseRefused() {
        for (int d : new int[] {-10, 10, LOW, HIGH}) {
            start("9");
            due("raise(" + d + "): BAD is ahead of NO", x.raise(d), BAD);
            isUnchanged("9");
        }
    }

    // 13: "THROW i becomes THROW j and j less i together, THROW j becomes THROW i less (j less i) .. if both are 0 to 9"

    private void changeUpToNine() {
        start("180");
        due("change(0, 1) of 180: to 9 and 0", x.change(0, 1), 9);
        isPattern(0, "900");
        start("990");
        due("change(0, 1) of 990: to 10 and 8", x.change(0, 1), NO);
        isUnchanged("990");
        due("change(0, 2) of 990: to 2 and 7", x.change(0, 2), 2);
        isPattern(0, "297");
        start("918");
        due("change(0, 2) of 918: to 10 and 7", x.change(0, 2), NO);
        isUnchanged("918");
        start("237");
        due("change(0, 2) of 237: to 9 and 0", x.change(0, 2), 9);
        isPattern(0, "930");
        start("228");
        due("change(0, 2) of 228: to 10 and 0", x.change(0, 2), NO);
        isUnchanged("228");
    }

    private void changeDownToNone() {
        start("11");
        due("change(0, 1) of 11: to 2 and 0", x.change(0, 1), 2);
        isPattern(0, "20");
        start("00");
        due("change(0, 1) of 00: to 1 and -1", x.change(0, 1), NO);
        isUnchanged("00");
        start("222");
        due("change(0, 2) of 222: to 4 and 0", x.change(0, 2), 4);
        isPattern(0, "420");
        start("111");
        due("change(0, 2) of 111: to 3 and -1", x.change(0, 2), NO);
        isUnchanged("111");
        start("1300");
        due("change(2, 3) of 1300: to 1 and -1", x.change(2, 3), NO);
        isUnchanged("1300");
    }

    private void changeOfPlaces() {
        String[] rows = {"5", "51", "531", TEN};
        for (String row : rows) {
            int size = row.length();
            int[] out = {-1, size, size + 1, LOW, HIGH};
            for (int wrong : out) {
                start(row);
                due("change(" + wrong + ", " + (size - 1) + ") of " + row, x.change(wrong, size - 1), BAD);
                due("change(0, " + wrong + ") of " + row, x.change(0, wrong), BAD);
                due("change(" + wrong + ", " + wrong + ") of " + row, x.change(wrong, wrong), BAD);
                isUnchanged(row);
            }
            for (int j = 0; j < size; j++) {
                for (int i = j; i < size; i++) {
                    due("change(" + i + ", " + j + ") of " + row, x.change(i, j), BAD);
                }
            }
            isUnchanged(row);
        }
        start("00");
        due("change(1, 0) of 00: BAD is ahead of NO", x.change(1, 0), BAD);
        due("change(0, 2) of 00: BAD is ahead of NO", x.change(0, 2), BAD);
        due("change(-1, 1) of 00: BAD is ahead of NO", x.change(-1, 1), BAD);
    }

    private void changeOfTen() {
        start(TEN);
        due("change(0, 8) of ten: to 8 and 1", x.change(0, 8), 8);
        isPattern(0, "8000000011");
        start(TEN);
        due("change(0, 9) of ten: to 10 and 0", x.change(0, 9), NO);
        due("change(8, 9) of ten: to 2 and -1", x.change(8, 9), NO);
        isUnchanged(TEN);
        start("5555555555");
        due("change(8, 9): THROW 8 then", x.change(8, 9), 6);
        isPattern(0, "5555555564");
    }

    // 14: "UNDONE is the latest of these .. (the last 8 can be)"; "how many more can be. NO."

    private void undoOfNothing() {
        fresh();
        due("undo() at first", x.undo(), NO);
        isUnchanged("531");
        x.turn(1);
        due("undo()", x.undo(), 0);
        due("undo() of nothing more", x.undo(), NO);
        isUnchanged("531");
    }

    private void undoOfEight() {
        start("0");
        for (int d = 1; d <= 8; d++) {
            x.raise(1);
            due("count(2) after " + d, x.count(2), d);
        }
        for (int left = 7; left >= 0; left--) {
            due("undo() to " + left, x.undo(), left);
            isPattern(0, "" + left);
        }
        due("undo() of a ninth that never was", x.undo(), NO);
        isUnchanged("0");

        for (int d = 1; d <= 9; d++) {
            x.raise(1);
        }
        due("count(2) after nine", x.count(2), 8);
        for (int left = 7; left >= 0; left--) {
            due("undo() to " + left, x.undo(), left);
            isPattern(0, "" + (left + 1));
        }
        due("undo() of the ninth", x.undo(), NO);
        isUnchanged("1");
    }

    /** However many came before, the last eight come back, the latest first. */
    private void undoGoesRound() {
        for (int made = 0; made <= 35; made++) {
            start(TEN);
            for (int i = 0; i < made; i++) {
                x.turn(1);
            }
            int can = Math.min(8, made);
            due("count(2) after " + made, x.count(2), can);
            for (int i = 1; i <= can; i++) {
                due("undo() after " + made, x.undo(), can - i);
                isPattern(0, turned(TEN, (made - i) % 10));
            }
            due("undo() of no more after " + made, x.undo(), NO);
            isUnchanged(turned(TEN, (made - can) % 10));
        }
    }

    private void undoAndChangesMixed() {
        start("0");
        raises(7);
        due("undo()", x.undo(), 6);
        due("undo()", x.undo(), 5);
        due("undo()", x.undo(), 4);
        isPattern(0, "4");
        raises(4);
        due("count(2) is eight", x.count(2), 8);
        raises(1);
        due("count(2) is eight still", x.count(2), 8);
        isPattern(0, "9");
        x.raise(-9);
        for (int h : new int[] {9, 8, 7, 6, 5, 4, 3, 2}) {
            x.undo();
            isPattern(0, "" + h);
        }
        due("undo() of no more", x.undo(), NO);
        isUnchanged("2");
    }

    private void raises(int times) {
        for (int i = 0; i < times; i++) {
            x.raise(1);
        }
    }

    // "UNDONE is the latest of these, or the latest nth(), next(), draw() that was not refused"

    private void undoOfEachKind() {
        fresh();
        due("turn", x.turn(2), 1);
        due("backwards", x.backwards(), 3);
        due("raise", x.raise(2), 5);
        due("change", x.change(0, 2), 9);
        due("nth", x.nth(2, 3, 9, 0), 0);
        due("next", x.next(), 1);
        due("draw", x.draw(1, 6, 9, 0), 6);
        due("count(2)", x.count(2), 7);
        String[] rows = {"15", "06", "933", "537", "315", "153", "531"};
        for (int i = 0; i < rows.length; i++) {
            due("undo() to " + rows[i], x.undo(), rows.length - 1 - i);
            isPattern(0, rows[i]);
        }
        isUnchanged("531");
    }

    // "also where THE PATTERN stayed as it was"

    private void undoWhereItStayed() {
        start("3");
        x.turn(0);
        x.backwards();
        x.raise(0);
        x.nth(1, 3, 9, 0);
        x.draw(1, 3, 9, 9999);
        due("count(2)", x.count(2), 5);
        for (int left = 4; left >= 0; left--) {
            due("undo() to 3 again", x.undo(), left);
            isPattern(0, "3");
        }
        due("undo() of no more", x.undo(), NO);
    }

    private void undoLeavesOutTheRefused() {
        start("6");
        x.raise(1);
        x.raise(-1);
        x.turn(1);
        x.raise(10);
        x.raise(4);
        x.change(0, 1);
        x.nth(1, 6, 5, 0);
        x.nth(1, 7, 9, 0);
        x.next();
        x.draw(1, 6, 5, 0);
        x.draw(1, 6, 9, -1);
        due("count(2) after refused ones", x.count(2), 2);
        due("undo()", x.undo(), 1);
        isPattern(0, "7");
        due("undo()", x.undo(), 0);
        isPattern(0, "6");
    }

    private void undoOverLengths() {
        start(TEN);
        x.nth(1, 6, 9, 0);
        x.nth(8, 1, 9, 254);
        isPattern(0, "80000000");
        due("undo() from eight to one", x.undo(), 1);
        isPattern(0, "6");
        due("undo() from one to ten", x.undo(), 0);
        isPattern(0, TEN);
    }

    // "An object is used for at most 512 calls after it has been made"

    private void upToTheLastCall() {
        fresh();
        String row = "531";
        for (int call = 1; call <= 504; call++) {
            due("turn(1), call " + call, x.turn(1), row.charAt(call % 3) - '0');
        }
        for (int call = 505; call <= 512; call++) {
            due("undo(), call " + call, x.undo(), 512 - call);
        }
    }
}
