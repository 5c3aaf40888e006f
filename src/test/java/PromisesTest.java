/** Each promise of the document by ordinary inputs, its edges and wrong inputs, with answers found by hand. */
public final class PromisesTest extends Bench {
    public static void main(String[] args) {
        PromisesTest test = new PromisesTest();
        test.patterns();
        test.changes();
        test.undoing();
        test.ballsAndHands();
        test.lists();
        test.refusedLists();
        test.ways();
        test.steps();
        test.slips();
        test.keeping();
        test.refusalsChangeNothing();
        test.checks.end();
    }

    private void patterns() {
        // 1: a new object
        fresh();
        isPattern(0, "531");
        isPattern(1, "531");
        due("count(2) at first", x.count(2), 0);
        due("count(3) at first", x.count(3), 0);
        due("count(4) at first", x.count(4), 0);

        // 2, 3: write, wipe
        due("write(0)", x.write(0, 53), BAD);
        due("write(9)", x.write(9, 53), BAD);
        due("write(LOW)", x.write(LOW, 53), BAD);
        due("write(HIGH)", x.write(HIGH, 53), BAD);
        due("write(2) of a longer one", x.write(2, 0x7735_3331L), 2);
        due("lay(1) of the lowest two bytes", x.lay(1), 2);
        due("toss(1, 0): the higher one first", x.toss(1, 0), 3);
        due("toss(1, 1)", x.toss(1, 1), 1);
        due("write(2) behind", x.write(2, 0x3335L), 4);
        due("wipe()", x.wipe(), 4);
        due("wipe() of the empty one", x.wipe(), 0);
        for (int i = 1; i <= 5; i++) {
            due("write(8), time " + i, x.write(8, -1L), 8 * i);
        }
        due("write beyond 40", x.write(1, 53), FULL);
        due("BAD is ahead of FULL", x.write(0, 53), BAD);
        due("count(4)", x.count(4), 40);
        due("wipe() of the full one", x.wipe(), 40);
        x.write(8, 0);
        x.write(8, 0);
        x.write(8, 0);
        x.write(8, 0);
        due("write up to 39", x.write(7, 0), 39);
        due("write(2) at 39", x.write(2, 0), FULL);
        due("nothing changed", x.count(4), 39);
        due("write(1) at 39", x.write(1, 0), 40);

        // 4, 5: fault, clash
        x.wipe();
        due("fault() of no byte", x.fault(), 0);
        due("clash() of no byte", x.clash(), NO);
        text("12/");
        due("fault() at the byte below 0", x.fault(), 2);
        text("1:2");
        due("fault() at the byte above 9", x.fault(), 1);
        x.wipe();
        x.write(2, 0x35B5);
        due("fault() at a byte above 127", x.fault(), 1);
        text("1234567890");
        due("fault() of ten", x.fault(), NONE);
        text("12345678901");
        due("fault() at the eleventh", x.fault(), 10);
        text("1234567x901");
        due("fault() at the first of two", x.fault(), 7);
        due("clash() with a fault", x.clash(), NO);
        text("543");
        due("clash() of 543", x.clash(), 1);
        text("135");
        due("clash() of 135: 1, 1, 1", x.clash(), 1);
        text("4440");
        due("clash() of 4440: 0, 1, 2, 3", x.clash(), NONE);
        text("4443");
        due("clash() of 4443: 0, 1, 2, 2", x.clash(), 3);
        text("0");
        due("clash() of 0", x.clash(), NONE);

        // 6, 7, 8: lay, toss, balls
        fresh();
        text("97531");
        due("lay(0)", x.lay(0), 5);
        isPattern(0, "97531");
        isPattern(1, "531");
        text("8");
        due("lay(1)", x.lay(1), 1);
        isPattern(0, "97531");
        isPattern(1, "8");
        due("balls(0)", x.balls(0), 5);
        due("balls(1)", x.balls(1), 8);
        due("balls(-1)", x.balls(-1), BAD);
        due("balls(2)", x.balls(2), BAD);
        due("lay(-1)", x.lay(-1), BAD);
        due("lay(2)", x.lay(2), BAD);
        text("21");
        due("lay(0) of no true one", x.lay(0), NO);
        due("BAD is ahead of NO", x.lay(2), BAD);
        isPattern(0, "97531");
        due("toss(0, 5)", x.toss(0, 5), NONE);
        due("toss(1, 1)", x.toss(1, 1), NONE);
        due("toss(0, HIGH)", x.toss(0, HIGH), NONE);
        due("toss(0, -1)", x.toss(0, -1), BAD);
        due("toss(0, LOW)", x.toss(0, LOW), BAD);
        due("toss(2, 9): BAD is ahead of NONE", x.toss(2, 9), BAD);

        // 9: air
        start("51");
        due("air(0) of 51", x.air(0), 0b1011);
        due("air(1) of 51", x.air(1), 0b10101);
        due("air(100000) of 51", x.air(100000), 0b1011);
        due("air(-1)", x.air(-1), BAD);
        due("air(100001)", x.air(100001), BAD);
        start("900");
        due("air(1) of 900: bit 8 as well", x.air(1), 0b100100100);
        start("9");
        due("air(7) of 9", x.air(7), 511);
        start("0");
        due("air(7) of 0", x.air(7), 0);
    }

    private void changes() {
        // 10: turn
        start("7531");
        due("turn(1)", x.turn(1), 5);
        isPattern(0, "5317");
        due("turn(3)", x.turn(3), 7);
        isPattern(0, "7531");
        due("turn(4)", x.turn(4), BAD);
        due("turn(-1)", x.turn(-1), BAD);
        due("turn(0)", x.turn(0), 7);
        due("turn(0) can be undone as well", x.count(2), 3);

        // 11: backwards; of 441 the throws come down at 1, 2, 0: so at 1, 0, 2 they are 4, 4, 1
        start("441");
        due("backwards() of 441", x.backwards(), 4);
        isPattern(0, "441");
        start("450");
        due("backwards() of 450: they come down at 1, 0, 2", x.backwards(), 0);
        isPattern(0, "045");
        due("backwards() again", x.backwards(), 4);
        isPattern(0, "450");
        start("7531");
        due("backwards() of 7531: at 3, 2, 1, 0", x.backwards(), 7);
        isPattern(0, "7531");
        due("count(2)", x.count(2), 1);

        // 12: raise
        start("531");
        due("raise(4)", x.raise(4), 7);
        isPattern(0, "975");
        due("raise(1) above 9", x.raise(1), NO);
        due("raise(-6) below 0", x.raise(-6), NO);
        due("raise(-5)", x.raise(-5), 2);
        isPattern(0, "420");
        due("raise(10)", x.raise(10), BAD);
        due("raise(-10)", x.raise(-10), BAD);
        due("raise(LOW)", x.raise(LOW), BAD);
        due("raise(0)", x.raise(0), 2);
        due("count(2)", x.count(2), 3);
        start("0");
        due("raise(9)", x.raise(9), 9);
        due("raise(-9)", x.raise(-9), 0);

        // 13: change
        start("531");
        due("change(0, 1)", x.change(0, 1), 4);
        isPattern(0, "441");
        due("change(0, 2)", x.change(0, 2), 3);
        isPattern(0, "342");
        due("change(1, 2)", x.change(1, 2), 3);
        isPattern(0, "333");
        due("change(1, 1)", x.change(1, 1), BAD);
        due("change(2, 1)", x.change(2, 1), BAD);
        due("change(-1, 1)", x.change(-1, 1), BAD);
        due("change(0, 3)", x.change(0, 3), BAD);
        due("change(LOW, HIGH)", x.change(LOW, HIGH), BAD);
        start("0000");
        due("change below 0", x.change(0, 3), NO);
        start("9999");
        due("change above 9", x.change(0, 1), NO);
        isPattern(0, "9999");
        start("1");
        due("change of one throw alone", x.change(0, 0), BAD);
        start("40");
        due("change of 40", x.change(0, 1), 1);
        isPattern(0, "13");
        start("180");
        due("change up to 9, down to 0", x.change(0, 1), 9);
        isPattern(0, "900");
    }

    private void undoing() {
        // 14: undo
        start("531");
        due("undo() of nothing", x.undo(), NO);
        due("turn", x.turn(1), 3);
        due("raise", x.raise(1), 4);
        due("undo()", x.undo(), 1);
        isPattern(0, "315");
        due("undo()", x.undo(), 0);
        isPattern(0, "531");
        due("undo() of nothing more", x.undo(), NO);
        for (int i = 0; i < 9; i++) {
            x.turn(1);
            due("count(2) after " + (i + 1), x.count(2), Math.min(8, i + 1));
        }
        for (int i = 7; i >= 0; i--) {
            due("undo() down to " + i, x.undo(), i);
        }
        due("the ninth is too long ago", x.undo(), NO);
        isPattern(0, "315");

        fresh();
        x.raise(8);
        x.turn(7);
        x.nth(3, 3, 2, 0);
        x.draw(3, 3, 2, 0);
        due("what is refused is not undone", x.count(2), 0);
        x.nth(2, 3, 9, 0);
        x.next();
        x.draw(1, 6, 9, 0);
        due("nth, next, draw can be", x.count(2), 3);
        isPattern(0, "6");
        x.undo();
        isPattern(0, "15");
        x.undo();
        isPattern(0, "06");
        x.undo();
        isPattern(0, "531");

        fresh();
        x.turn(1);
        text("3");
        x.lay(1);
        due("lay(1) leaves what can be undone", x.count(2), 1);
        x.lay(0);
        due("lay(0) does not", x.count(2), 0);
        due("undo() then", x.undo(), NO);
    }

    private void ballsAndHands() {
        // 15: cycle
        start("423");
        due("cycle(0) of 423", x.cycle(0), 0b011);
        due("cycle(2) of 423", x.cycle(2), 0b100);
        due("cycle(-1) of 423", x.cycle(-1), 2);
        start("5300");
        due("cycle(0) of 5300", x.cycle(0), 0b11);
        due("cycle(1)", x.cycle(1), 0b11);
        due("cycle(2) of a 0", x.cycle(2), 0b100);
        due("cycle(3) of a 0", x.cycle(3), 0b1000);
        due("cycle(-1): those of 0 are left out", x.cycle(-1), 1);
        due("cycle(-2)", x.cycle(-2), BAD);
        due("cycle(4)", x.cycle(4), BAD);
        start("4444");
        due("cycle(-1) of 4444", x.cycle(-1), 4);
        start("00");
        due("cycle(-1) of 00", x.cycle(-1), 0);

        // 16: ball
        start("60");
        due("ball(0) of 60", x.ball(0), 0);
        due("ball(1) of 60", x.ball(1), NONE);
        due("ball(2) of 60", x.ball(2), 1);
        due("ball(4) of 60", x.ball(4), 2);
        due("ball(6) of 60", x.ball(6), 0);
        due("ball(100000): 50000 modulo 3", x.ball(100000), 50000 % 3);
        due("ball(99999)", x.ball(99999), NONE);
        due("ball(-1)", x.ball(-1), BAD);
        due("ball(100001)", x.ball(100001), BAD);
        start("9");
        due("ball(8) of 9", x.ball(8), 8);
        due("ball(99999) of 9", x.ball(99999), 0);

        // 17: hands
        start("42");
        due("42 by two: 4s by the one", x.hands(2, 0, 0), 2);
        due("2s by the other", x.hands(2, 1, 1), 2);
        due("none across", x.hands(2, 0, 1), 0);
        start("40");
        due("0s are not counted", x.hands(2, 1, 1), 0);
        due("hands(1, 0, 0)", x.hands(1, 0, 0), 1);
        start("3");
        due("3 by five: from 2 to 0", x.hands(5, 2, 0), 1);
        due("3 by five: from 2 to 1", x.hands(5, 2, 1), 0);
        due("hands(0, 0, 0)", x.hands(0, 0, 0), BAD);
        due("hands(6, 0, 0)", x.hands(6, 0, 0), BAD);
        due("hands(3, 3, 0)", x.hands(3, 3, 0), BAD);
        due("hands(3, 0, 3)", x.hands(3, 0, 3), BAD);
        due("hands(3, -1, 0)", x.hands(3, -1, 0), BAD);
        due("hands(3, 0, -1)", x.hands(3, 0, -1), BAD);
    }

    private void lists() {
        // 18 to 24: of two throws and three balls there are 06 15 24 33 42 51 60
        fresh();
        String[] rows = {"06", "15", "24", "33", "42", "51", "60"};
        due("all(2, 3, 9)", x.all(2, 3, 9), 7);
        due("all(2, 3, 4)", x.all(2, 3, 4), 3);
        due("all(2, 3, 2)", x.all(2, 3, 2), 0);
        due("all(1, 6, 6)", x.all(1, 6, 6), 1);
        due("all(1, 6, 5)", x.all(1, 6, 5), 0);
        for (int i = 0; i < rows.length; i++) {
            due("nth " + i, x.nth(2, 3, 9, i), rows[i].charAt(0) - '0');
            isPattern(0, rows[i]);
            due("rank() of " + rows[i], x.rank(), i);
        }
        due("next() of the last", x.next(), NONE);
        isPattern(0, "60");
        due("nth(2, 3, 9, 7)", x.nth(2, 3, 9, 7), NONE);
        due("nth(2, 3, 9, 2^32)", x.nth(2, 3, 9, 1L << 32), NONE);
        due("nth(2, 3, 9, Long.MAX_VALUE)", x.nth(2, 3, 9, Long.MAX_VALUE), NONE);
        due("nth(2, 3, 4, 0)", x.nth(2, 3, 4, 0), 2);
        isPattern(0, "24");
        due("rank() is by m = 9", x.rank(), 2);
        due("next()", x.next(), 3);
        due("next()", x.next(), 4);
        isPattern(0, "42");

        // 22: prime; 42 is ahead of 0 in 111, ahead of 1 in 1011
        due("prime() of 42", x.prime(), 1);
        start("33");
        due("prime() of 33", x.prime(), 0);
        start("3");
        due("prime() of 3", x.prime(), 1);
        start("51");
        due("prime() of 51", x.prime(), 1);
        start("5151");
        due("prime() of 5151", x.prime(), 0);
        start("00");
        due("prime() of 00", x.prime(), 0);
        // 23: primes; of the seven 06 15 24 and these turned, not 33
        due("primes(2, 3, 9)", x.primes(2, 3, 9), 3);
        due("primes(2, 3, 5)", x.primes(2, 3, 5), 2);
        due("primes(2, 3, 2)", x.primes(2, 3, 2), 0);
        due("primes(1, 3, 9)", x.primes(1, 3, 9), 1);
        isPattern(0, "00");

        // 24: z = 0: x = 1, y = 2: 65521 and 4 together; of the 7 that is number 65525 modulo 7 = 5
        due("draw(2, 3, 9, 0)", x.draw(2, 3, 9, 0), 5);
        isPattern(0, "51");
        long number = 7920L * 7920 % 65521 * 65521 + 6153L * 6153 % 65521;
        due("draw(2, 3, 9, 1)", x.draw(2, 3, 9, 1), rows[(int) (number % 7)].charAt(0) - '0');
        due("draw(2, 3, 2, 1)", x.draw(2, 3, 2, 1), NONE);
    }

    private void refusedLists() {
        int[][] wrong = {{0, 3, 9}, {9, 3, 9}, {3, 0, 9}, {3, 7, 9}, {3, 3, 0}, {3, 3, 10}, {LOW, 3, 9}, {3, HIGH, 9}};
        fresh();
        for (int[] one : wrong) {
            String of = "(" + one[0] + ", " + one[1] + ", " + one[2];
            due("all" + of, x.all(one[0], one[1], one[2]), BAD);
            due("nth" + of, x.nth(one[0], one[1], one[2], 0), BAD);
            due("primes" + of, x.primes(one[0], one[1], one[2]), BAD);
            due("draw" + of, x.draw(one[0], one[1], one[2], 0), BAD);
        }
        due("nth of -1", x.nth(3, 3, 9, -1), BAD);
        due("nth of -1: BAD is ahead of NONE", x.nth(3, 3, 2, -1), BAD);
        due("nth of Long.MIN_VALUE", x.nth(3, 3, 9, Long.MIN_VALUE), BAD);
        due("primes(7, 3, 9)", x.primes(7, 3, 9), BAD);
        due("primes(8, 3, 9)", x.primes(8, 3, 9), BAD);
        due("draw by 9999 of one alone", x.draw(1, 3, 9, 9999), 3);
        due("draw by -1", x.draw(3, 3, 9, -1), BAD);
        due("draw by 10000", x.draw(3, 3, 9, 10000), BAD);
        due("draw by 10000: BAD is ahead of NONE", x.draw(3, 3, 2, 10000), BAD);
        start("333333333");
        due("rank() of nine throws", x.rank(), NO);
        due("next() of nine throws", x.next(), NO);
        start("7");
        due("rank() of 7 balls", x.rank(), NO);
        due("next() of 7 balls", x.next(), NO);
        start("0");
        due("rank() of no ball", x.rank(), NO);
        due("next() of no ball", x.next(), NO);
        start("6");
        due("rank() of 6 balls", x.rank(), 0);
        due("next() of 6 balls", x.next(), NONE);
        start("11111111");
        due("next() of eight throws", x.next(), 1);
    }

    private void ways() {
        // 25: in; 51 is in air 1011: from 111 by 4
        start("51");
        due("in(-1)", x.in(-1), 1);
        due("in(0)", x.in(0), 4);
        due("in(1)", x.in(1), NONE);
        due("in(HIGH)", x.in(HIGH), NONE);
        due("in(-2)", x.in(-2), BAD);
        due("in(LOW)", x.in(LOW), BAD);
        // 26: out; from 1011 by 2 to 101 and 10
        due("out(0, -1)", x.out(0, -1), 1);
        due("out(0, 0)", x.out(0, 0), 2);
        due("out(0, 1)", x.out(0, 1), NONE);
        due("out(2, -1)", x.out(2, -1), BAD);
        due("out(-1, -1)", x.out(-1, -1), BAD);
        due("out(0, -2)", x.out(0, -2), BAD);
        due("out(2, HIGH): BAD is ahead of NONE", x.out(2, HIGH), BAD);
        // from 111 by 4 to 1011, by 5 to 10101
        start("60");
        due("in(-1) of 60, air 10101", x.in(-1), 2);
        due("in(0) of 60", x.in(0), 4);
        due("in(1) of 60", x.in(1), 5);
        start("0");
        due("in(-1) of no ball", x.in(-1), 0);
        due("out(0, -1) of no ball", x.out(0, -1), 0);
        due("in(0) of no ball", x.in(0), NONE);
        start("9");
        due("in(-1) of nine balls", x.in(-1), 0);

        // 27: across
        start("531");
        layAnother("51");
        due("across(0, -1)", x.across(0, -1), 1);
        due("across(0, 0)", x.across(0, 0), 4);
        due("across(0, 1)", x.across(0, 1), NONE);
        due("across(3, -1)", x.across(3, -1), BAD);
        due("across(-1, -1)", x.across(-1, -1), BAD);
        due("across(0, -2)", x.across(0, -2), BAD);
        layAnother("4");
        due("across(0, -1): another number of balls", x.across(0, -1), NONE);
        due("across(0, 0): another number of balls", x.across(0, 0), NONE);
        due("across(3, 0): BAD is ahead of NONE", x.across(3, 0), BAD);
        start("9");
        layAnother("0");
        due("across(0, -1) from nine balls to none", x.across(0, -1), NONE);
    }

    private void steps() {
        // 28: steps: a change has two throws come down where the other did
        start("531");
        due("steps() to itself", x.steps(), 0);
        layAnother("441");
        due("531 to 441", x.steps(), 1);
        layAnother("423");
        due("531 to 423: 5 4 3 to 4 3 5", x.steps(), 2);
        layAnother("522");
        due("531 to 522", x.steps(), 1);
        layAnother("630");
        due("531 to 630: they never come down at 6", x.steps(), NONE);
        layAnother("444");
        due("another number of balls", x.steps(), NONE);
        layAnother("51");
        due("not as many throws", x.steps(), NO);
        start("55555");
        layAnother("49552");
        due("all 120 arrangements looked at in vain", x.steps(), NONE);
        due("and once more", x.steps(), NONE);
        layAnother("97531");
        due("55555 to 97531", x.steps(), 2);
        due("and once more", x.steps(), 2);
        start("333333");
        layAnother("333333");
        due("six throws", x.steps(), NO);
        start("33333");
        layAnother("33333");
        due("five throws", x.steps(), 0);
        layAnother("3333333333");
        due("five and ten", x.steps(), NO);
    }

    private void slips() {
        // 29, 30: 3 is in 111 always; the others are at 1 and 2 when one is thrown
        start("3");
        due("together(0, 1)", x.together(0, 1), 1);
        due("together(0, 2)", x.together(0, 2), 1);
        due("together(0, 4)", x.together(0, 4), 0);
        due("together(0, 9)", x.together(0, 9), 0);
        due("together(0, 3) as it is", x.together(0, 3), BAD);
        due("together(0, 0)", x.together(0, 0), BAD);
        due("together(0, 10)", x.together(0, 10), BAD);
        due("together(1, 4)", x.together(1, 4), BAD);
        due("together(-1, 4)", x.together(-1, 4), BAD);
        due("mended(0, 1)", x.mended(0, 1), NONE);
        due("mended(0, 4): by a 2", x.mended(0, 4), 1);
        due("mended(0, 5): from 10011 by 2 and 2", x.mended(0, 5), 2);
        due("mended(0, 3)", x.mended(0, 3), BAD);
        due("mended(0, 10)", x.mended(0, 10), BAD);
        due("mended(1, 4)", x.mended(1, 4), BAD);
        start("900");
        due("mended(0, 8): by 9s of the others, and a 1 at beat 8", x.mended(0, 8), 8);
        start("60");
        due("together at a 0", x.together(1, 3), NO);
        due("mended at a 0", x.mended(1, 3), NO);
        due("BAD is ahead of NO", x.together(1, 0), BAD);
        due("BAD is ahead of NO", x.mended(1, 10), BAD);
        start("1");
        due("mended(0, 9): by eight 0s it comes down when it is due", x.mended(0, 9), 8);
        start("9");
        due("together of nine balls", x.together(0, 1), 1);
    }

    private void keeping() {
        // 31, 32, 33
        start("51");
        due("back() of nothing", x.back(), NO);
        due("keep()", x.keep(), 1);
        x.turn(1);
        due("keep()", x.keep(), 2);
        x.raise(1);
        due("keep() of a third", x.keep(), FULL);
        due("count(3)", x.count(3), 2);
        due("count(2)", x.count(2), 2);
        due("back()", x.back(), 1);
        isPattern(0, "15");
        due("nothing can be undone then", x.count(2), 0);
        due("undo()", x.undo(), NO);
        due("back()", x.back(), 0);
        isPattern(0, "51");
        due("back() of nothing more", x.back(), NO);
        due("keep() again", x.keep(), 1);
        due("count(-1)", x.count(-1), BAD);
        due("count(5)", x.count(5), BAD);
        due("count(LOW)", x.count(LOW), BAD);
        due("count(4)", x.count(4), 2);
        text("531");
        due("lay(0) leaves what is kept", x.lay(0), 3);
        due("count(3)", x.count(3), 1);
        due("count(0)", x.count(0), 3);
        due("back() over another length", x.back(), 0);
        isPattern(0, "51");
    }

    private void refusalsChangeNothing() {
        start("7531");
        layAnother("51");
        text("12x");
        x.turn(1);
        x.keep();
        x.keep();
        x.write(0, 1);
        x.lay(0);
        x.lay(1);
        x.turn(9);
        x.raise(9);
        x.change(0, 3);
        x.change(3, 0);
        x.nth(3, 3, 9, 37);
        x.nth(3, 3, 9, -1);
        x.draw(3, 3, 2, 0);
        x.draw(3, 3, 9, -1);
        x.keep();
        x.clash();
        x.primes(5, 3, 9);
        x.in(0);
        x.mended(0, 9);
        isPattern(0, "5317");
        isPattern(1, "51");
        due("count(2)", x.count(2), 1);
        due("count(3)", x.count(3), 2);
        due("count(4)", x.count(4), 3);
    }
}
