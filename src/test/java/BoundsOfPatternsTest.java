/** Promises 1 to 9: each sentence that names a bound, an empty or full text, a wrap-around or a refusal, by itself. */
public final class BoundsOfPatternsTest extends Bench {
    private static final int[] OUT_OF_WHICH = {-1, 2, LOW, HIGH};

    // Ten throws, one ball: it is thrown by 9 at beat 0, comes down at 9, is thrown by 1, comes down at 10.
    private static final String TEN = "9000000001";

    public static void main(String[] args) {
        BoundsOfPatternsTest test = new BoundsOfPatternsTest();
        test.newObject();
        test.objectsOfTheirOwn();
        test.writeTakesTheLowestBytes();
        test.writeTakesOneToEight();
        test.writeFillsUpToForty();
        test.wipeOfEmptyAndFull();
        test.faultOfEveryByte();
        test.faultAtEveryPlace();
        test.faultOfTheEleventh();
        test.faultOfNone();
        test.clashNeedsATextWithoutFault();
        test.clashIsTheFirst();
        test.clashGoesRound();
        test.layOfOneAndTen();
        test.layRefused();
        test.layAndWhatCanBeUndone();
        test.layLeavesTheRest();
        test.tossUpToTheLast();
        test.tossRefused();
        test.ballsFromNoneToNine();
        test.ballsRefused();
        test.airBits();
        test.airFromEver();
        test.airBeats();
        test.airGoesRound();
        test.checks.end();
    }

    private void fill(int bytes) {
        fresh();
        for (int i = 0; i < bytes; i++) {
            x.write(1, '3');
        }
    }

    // 1: "As told; ANOTHER is as THE PATTERN; THE TEXT is empty."

    private void newObject() {
        fresh();
        isPattern(0, "531");
        isPattern(1, "531");
        due("balls(0) at first", x.balls(0), 3);
        due("balls(1) at first", x.balls(1), 3);
        due("steps() at first", x.steps(), 0);
        due("count(2) at first", x.count(2), 0);
        due("undo() at first", x.undo(), NO);
        due("count(3) at first", x.count(3), 0);
        due("back() at first", x.back(), NO);
        due("count(4) at first", x.count(4), 0);
        due("fault() at first", x.fault(), 0);
        due("clash() at first", x.clash(), NO);
        due("lay(0) at first", x.lay(0), NO);
        due("lay(1) at first", x.lay(1), NO);
        due("wipe() at first", x.wipe(), 0);
        isPattern(0, "531");
        isPattern(1, "531");
    }

    private void objectsOfTheirOwn() {
        BallsInAir other = new BallsInAir();
        start("9");
        layAnother("0");
        x.turn(0);
        x.keep();
        x.primes(6, 6, 9);
        due("count(4) of an older object", other.count(4), 0);
        due("count(2) of it", other.count(2), 0);
        due("count(3) of it", other.count(3), 0);
        due("toss(0, 0) of it", other.toss(0, 0), 5);
        due("toss(1, 0) of it", other.toss(1, 0), 5);
        other.raise(1);
        isPattern(0, "9");
        isPattern(1, "0");
        fresh();
        newObject();
    }

    // 2: "The lowest n bytes (1 to 8) of v, the highest of these first, come behind THE TEXT: how long it is."

    private void writeTakesTheLowestBytes() {
        for (int n = 1; n <= 8; n++) {
            for (int place = 0; place < n; place++) {
                // All bytes that are taken are figures but one; those that are not taken are none.
                long v = -1;
                for (int k = 0; k < n; k++) {
                    v = v << 8 | (k == place ? 'x' : '0' + k);
                }
                fresh();
                due("write(" + n + ", ..)", x.write(n, v), n);
                due("fault() with x at " + place + " of " + n, x.fault(), place);
            }
        }
        fresh();
        due("write(8) of 75317531", x.write(8, 0x3735333137353331L), 8);
        due("lay(1) of it", x.lay(1), 8);
        isPattern(1, "75317531");
        fresh();
        due("write(3) of 444975", x.write(3, 0x343434393735L), 3);
        due("write(2) of 4431 behind", x.write(2, 0x34343331L), 5);
        due("lay(1) of it", x.lay(1), 5);
        isPattern(1, "97531");
        fresh();
        x.write(8, 0xB030303030303030L);
        due("fault() at the highest byte, above 127", x.fault(), 0);
        fresh();
        x.write(1, 0x130);
        due("fault() of the lowest byte alone", x.fault(), NONE);
    }

    private void writeTakesOneToEight() {
        for (int n : new int[] {0, 9, -1, -8, 16, 257, LOW, HIGH}) {
            fill(0);
            due("write(" + n + ") to the empty one", x.write(n, '3'), BAD);
            due("count(4) is as it was", x.count(4), 0);
            fill(40);
            due("write(" + n + ") to the full one: BAD is ahead of FULL", x.write(n, '3'), BAD);
            due("count(4) is as it was", x.count(4), 40);
        }
    }

    private void writeFillsUpToForty() {
        for (int length = 0; length <= 40; length++) {
            for (int n = 1; n <= 8; n++) {
                fill(length);
                boolean fits = length + n <= 40;
                String call = "write(" + n + ") behind " + length;
                due(call, x.write(n, 0x3333333333333333L), fits ? length + n : FULL);
                due("count(4) after " + call, x.count(4), fits ? length + n : length);
            }
        }
    }

    // 3: "THE TEXT is empty: how long it was."

    private void wipeOfEmptyAndFull() {
        for (int length : new int[] {0, 1, 39, 40}) {
            fill(length);
            due("wipe() of " + length, x.wipe(), length);
            due("count(4) after it", x.count(4), 0);
            due("fault() after it", x.fault(), 0);
            due("wipe() after it", x.wipe(), 0);
            due("write(8) after it", x.write(8, 0), 8);
        }
        start("51");
        x.wipe();
        isPattern(0, "51");
        due("lay(0) of the wiped one", x.lay(0), NO);
    }

    // 4: "the place (from 0 on) of the first byte that is no figure, or is the eleventh; 0, if there is none at all"

    private void faultOfEveryByte() {
        for (int value = 0; value < 256; value++) {
            boolean isFigure = value >= '0' && value <= '9';
            fresh();
            x.write(1, '7');
            x.write(1, value);
            due("fault() of byte " + value, x.fault(), isFigure ? NONE : 1);
            fresh();
            x.write(1, value);
            due("lay(1) of byte " + value, x.lay(1), isFigure ? 1 : NO);
            due("toss(1, 0) of byte " + value, x.toss(1, 0), isFigure ? value - '0' : 5);
        }
    }

    private void faultAtEveryPlace() {
        for (int place = 0; place < 10; place++) {
            StringBuilder row = new StringBuilder("3333333333");
            row.setCharAt(place, ':');
            text(row.toString());
            due("fault() of " + row, x.fault(), place);
            row.setCharAt(9, '/');
            text(row.append("33").toString());
            due("fault() of " + row, x.fault(), place);
        }
    }

    private void faultOfTheEleventh() {
        fill(10);
        due("fault() of ten", x.fault(), NONE);
        fill(11);
        due("fault() of eleven", x.fault(), 10);
        fill(40);
        due("fault() of forty", x.fault(), 10);
        text("3333333333x");
        due("fault() of an eleventh that is no figure", x.fault(), 10);
        text("33333333333x");
        due("fault() with a twelfth that is no figure", x.fault(), 10);
        text("333333333x3");
        due("fault() with a tenth that is no figure", x.fault(), 9);
    }

    private void faultOfNone() {
        fill(0);
        due("fault() of no byte", x.fault(), 0);
        fill(1);
        due("fault() of one", x.fault(), NONE);
        x.wipe();
        due("fault() of a wiped one", x.fault(), 0);
    }

    // 5: "the first i of which that number is one of a lower i, too; none"; "NO: it has a FAULT"

    private void clashNeedsATextWithoutFault() {
        for (String row : new String[] {"", "x", "3x", "33333333333", "21x", "333333333/"}) {
            text(row);
            due("clash() of '" + row + "'", x.clash(), NO);
        }
        fill(40);
        due("clash() of forty", x.clash(), NO);
    }

    private void clashIsTheFirst() {
        for (char figure = '0'; figure <= '9'; figure++) {
            text("" + figure);
            due("clash() of " + figure, x.clash(), NONE);
        }
        text("21");
        due("clash() of 21", x.clash(), 1);
        text("3213");
        due("clash() of 3213: 3, 3, 3, 2", x.clash(), 1);
        text("3330");
        due("clash() of 3330: 3, 0, 1, 3", x.clash(), 3);
        text("3303");
        due("clash() of 3303: 3, 0, 2, 2", x.clash(), 3);
        text("3322");
        due("clash() of 3322: 3, 0, 0, 1", x.clash(), 2);
        text("5555555555");
        due("clash() of ten", x.clash(), NONE);
        text("5555555554");
        due("clash() at the last of ten", x.clash(), 9);
        text("5455555554");
        due("clash() at the first of two of ten", x.clash(), 1);
        text(TEN);
        due("clash() of " + TEN, x.clash(), NONE);
    }

    private void clashGoesRound() {
        text("41");
        due("clash() of 41: 4 and 2, modulo 2", x.clash(), 1);
        text("40");
        due("clash() of 40: 4 and 1, modulo 2", x.clash(), NONE);
        text("960");
        due("clash() of 960: 9, 7, 2, modulo 3", x.clash(), NONE);
        text("965");
        due("clash() of 965: 9, 7, 7, modulo 3", x.clash(), 2);
        text("900000000");
        due("clash() of 900000000: 9 modulo 9 is 0", x.clash(), NONE);
        text("9000000000");
        due("clash() of 9000000000: 9 modulo 10 is 9", x.clash(), 9);
    }

    // 6: "LAID as THE PATTERN (which = 0), ANOTHER (1): how many THROWS; of THE PATTERN nothing can be UNDONE then."

    private void layOfOneAndTen() {
        String[] rows = {"0", "9", "5555555555", TEN};
        for (int which = 0; which <= 1; which++) {
            for (String row : rows) {
                fresh();
                text(row);
                due("lay(" + which + ") of " + row, x.lay(which), row.length());
                isPattern(which, row);
                isPattern(1 - which, "531");
            }
        }
    }

    private void layRefused() {
        for (int which : OUT_OF_WHICH) {
            fresh();
            due("lay(" + which + ") of no byte: BAD is ahead of NO", x.lay(which), BAD);
            text("4");
            due("lay(" + which + ")", x.lay(which), BAD);
            isPattern(0, "531");
            isPattern(1, "531");
        }
        for (int which = 0; which <= 1; which++) {
            for (String row : new String[] {"", "x", "4x", "x4", "33333333333", "21", "5555555554"}) {
                fresh();
                text(row);
                due("lay(" + which + ") of '" + row + "'", x.lay(which), NO);
                isPattern(0, "531");
                isPattern(1, "531");
                due("count(4) after it", x.count(4), row.length());
            }
        }
    }

    private void layAndWhatCanBeUndone() {
        fresh();
        x.turn(1);
        x.turn(1);
        text("21");
        x.lay(0);
        due("count(2) after a refused lay(0)", x.count(2), 2);
        text("3");
        x.lay(1);
        due("count(2) after lay(1)", x.count(2), 2);
        due("undo() after lay(1)", x.undo(), 1);
        isPattern(0, "315");
        isPattern(1, "3");
        due("lay(0)", x.lay(0), 1);
        due("count(2) after lay(0)", x.count(2), 0);
        due("undo() after lay(0)", x.undo(), NO);
        isPattern(0, "3");
        x.raise(1);
        due("what comes behind it can be undone", x.undo(), 0);
        isPattern(0, "3");
    }

    private void layLeavesTheRest() {
        fresh();
        x.keep();
        text("42");
        x.lay(0);
        due("count(3) after lay(0)", x.count(3), 1);
        due("count(4) after lay(0)", x.count(4), 2);
        due("the text can be laid again", x.lay(1), 2);
        isPattern(0, "42");
        isPattern(1, "42");
        due("count(4) after lay(1)", x.count(4), 2);
        due("back()", x.back(), 0);
        isPattern(0, "531");
    }

    // 7: "NONE: not so many; BAD (i below 0)"

    private void tossUpToTheLast() {
        start("7");
        layAnother(TEN);
        due("toss(0, 0) of one", x.toss(0, 0), 7);
        due("toss(0, 1) of one", x.toss(0, 1), NONE);
        due("toss(0, HIGH) of one", x.toss(0, HIGH), NONE);
        due("toss(1, 0) of ten", x.toss(1, 0), 9);
        due("toss(1, 1) of ten", x.toss(1, 1), 0);
        due("toss(1, 9) of ten", x.toss(1, 9), 1);
        due("toss(1, 10) of ten", x.toss(1, 10), NONE);
        due("toss(1, HIGH) of ten", x.toss(1, HIGH), NONE);
    }

    private void tossRefused() {
        fresh();
        for (int which = 0; which <= 1; which++) {
            due("toss(" + which + ", -1)", x.toss(which, -1), BAD);
            due("toss(" + which + ", LOW)", x.toss(which, LOW), BAD);
        }
        for (int which : OUT_OF_WHICH) {
            due("toss(" + which + ", 0)", x.toss(which, 0), BAD);
            due("toss(" + which + ", 2)", x.toss(which, 2), BAD);
            due("toss(" + which + ", 3): BAD is ahead of NONE", x.toss(which, 3), BAD);
            due("toss(" + which + ", -1)", x.toss(which, -1), BAD);
        }
    }

    // 8: "BALLS: the sum of THROWS by P."

    private void ballsFromNoneToNine() {
        for (int balls = 0; balls <= 9; balls++) {
            start("" + balls);
            due("balls(0) of " + balls, x.balls(0), balls);
            due("balls(1) beside it", x.balls(1), 3);
            layAnother("" + (9 - balls));
            due("balls(1) of " + (9 - balls), x.balls(1), 9 - balls);
            due("balls(0) beside it", x.balls(0), balls);
        }
        start("9999999999");
        layAnother("0000000000");
        due("balls(0) of ten by 9", x.balls(0), 9);
        due("balls(1) of ten by 0", x.balls(1), 0);
        start(TEN);
        due("balls(0) of " + TEN, x.balls(0), 1);
    }

    private void ballsRefused() {
        fresh();
        for (int which : OUT_OF_WHICH) {
            due("balls(" + which + ")", x.balls(which), BAD);
        }
    }

    // 9: "bit k (0 to 8) is 1, if a ball that was thrown ahead of BEAT t .. comes down at BEAT t and k"

    private void airBits() {
        start("900000000");
        due("air(0): it comes down now", x.air(0), 1);
        for (int t = 1; t <= 9; t++) {
            due("air(" + t + ") of one ball thrown at 0 by 9", x.air(t), 1 << (9 - t));
        }
        start("9");
        due("air(0) of 9", x.air(0), 511);
        due("air(100000) of 9", x.air(100000), 511);
        start("0");
        due("air(0) of 0", x.air(0), 0);
        due("air(100000) of 0", x.air(100000), 0);
        start("1");
        due("air(0) of 1", x.air(0), 1);
    }

    private void airFromEver() {
        start("000000009");
        due("air(0): thrown at -1", x.air(0), 256);
        start("090000000");
        due("air(0): thrown at -8", x.air(0), 2);
        start("9000000001");
        due("air(0): thrown at -1 by 1", x.air(0), 1);
        start("8");
        due("air(0): thrown at -1 to -8", x.air(0), 255);
    }

    private void airBeats() {
        fresh();
        for (int t : new int[] {-1, 100001, LOW, HIGH}) {
            due("air(" + t + ")", x.air(t), BAD);
        }
        due("air(0) of 531", x.air(0), 0b111);
        due("air(99999) of 531", x.air(99999), 0b111);
        due("air(100000) of 531", x.air(100000), 0b10011);
    }

    private void airGoesRound() {
        start(TEN);
        due("air(1) of ten", x.air(1), 256);
        due("air(2) of ten", x.air(2), 128);
        due("air(9) of ten", x.air(9), 1);
        due("air(10) of ten", x.air(10), 1);
        due("air(11) of ten", x.air(11), 256);
        due("air(99998) of ten", x.air(99998), 2);
        due("air(99999) of ten", x.air(99999), 1);
        due("air(100000) of ten", x.air(100000), 1);
        String[] rows = {"3", "51", "531", "7531", "97531", "600000", "8600000", "80000000", "900000000", TEN};
        for (String row : rows) {
            start(row);
            for (int t = 0; t < row.length(); t++) {
                int last = 100000 - (100000 - t) % row.length();
                due("air(" + (t + row.length()) + ") of " + row, x.air(t + row.length()), x.air(t));
                due("air(" + last + ") of " + row, x.air(last), x.air(t));
            }
        }
    }
}
