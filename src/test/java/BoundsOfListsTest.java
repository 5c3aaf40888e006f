/** Promises 18 to 24: each sentence that names a bound, an empty list, a first or last one or a refusal, by itself. */
public final class BoundsOfListsTest extends Bench {
    public static void main(String[] args) {
        BoundsOfListsTest test = new BoundsOfListsTest();
        test.numbersOfLists();
        test.numbersOfListsRefused();
        test.allAtTheCorners();
        test.allByHeights();
        test.nthFirstAndLast();
        test.nthInOrder();
        test.nthOfNone();
        test.nthRefused();
        test.rankFirstAndLast();
        test.rankIsByNine();
        test.rankRefused();
        test.nextUpToTheLast();
        test.nextGoesBeyondM();
        test.nextRefused();
        test.primeOfOne();
        test.primeOfTen();
        test.primeOfLikeAirs();
        test.primesAtTheCorners();
        test.primesOnceForTurned();
        test.primesRefused();
        test.drawByTheFirstAndTheLast();
        test.drawOfNone();
        test.drawRefused();
        test.checks.end();
    }

    private void isUnchanged(String row) {
        isPattern(0, row);
        due("count(2) of " + row, x.count(2), 0);
    }

    // "p (1 to 8) THROWS, b (1 to 6) BALLS, no THROW above m (1 to 9)"; "PRIMES .. of p (1 to 6), b, m"

    private void numbersOfLists() {
        for (int p = 1; p <= 8; p++) {
            for (int b = 1; b <= 6; b++) {
                int m = b;
                String of = "(" + p + ", " + b + ", " + m;
                fresh();
                due("all" + of + "): all alike", x.all(p, b, m), 1);
                due("all" + of + " less 1)", m == 1 ? 0 : x.all(p, b, m - 1), 0);
                due("primes" + of + ")", x.primes(p, b, m), p > 6 ? BAD : p == 1 ? 1 : 0);
                due("nth" + of + ", 0)", x.nth(p, b, m, 0), b);
                isPattern(0, ("" + b).repeat(p));
                due("draw" + of + ", 0)", x.draw(p, b, m, 0), b);
                isPattern(0, ("" + b).repeat(p));
            }
        }
    }

    private void numbersOfListsRefused() {
        int[][] wrong = {
            {0, 3, 9}, {9, 3, 9}, {-1, 3, 9}, {LOW, 3, 9}, {HIGH, 3, 9},
            {3, 0, 9}, {3, 7, 9}, {3, -1, 9}, {3, LOW, 9}, {3, HIGH, 9},
            {3, 3, 0}, {3, 3, 10}, {3, 3, -1}, {3, 3, LOW}, {3, 3, HIGH},
            {0, 0, 0}, {9, 7, 10}
        };
        for (int[] one : wrong) {
            String of = "(" + one[0] + ", " + one[1] + ", " + one[2];
            fresh();
            due("all" + of + ")", x.all(one[0], one[1], one[2]), BAD);
            due("nth" + of + ", 0)", x.nth(one[0], one[1], one[2], 0), BAD);
            due("primes" + of + ")", x.primes(one[0], one[1], one[2]), BAD);
            due("draw" + of + ", 0)", x.draw(one[0], one[1], one[2], 0), BAD);
            isUnchanged("531");
        }
    }

    // 18: "How many."

    private void allAtTheCorners() {
        fresh();
        due("all(1, 1, 1)", x.all(1, 1, 1), 1);
        due("all(1, 1, 9)", x.all(1, 1, 9), 1);
        due("all(1, 6, 1): none", x.all(1, 6, 1), 0);
        due("all(1, 6, 5): none", x.all(1, 6, 5), 0);
        due("all(1, 6, 9)", x.all(1, 6, 9), 1);
        due("all(8, 1, 1)", x.all(8, 1, 1), 1);
        due("all(8, 6, 5): none", x.all(8, 6, 5), 0);
        due("all(8, 6, 6)", x.all(8, 6, 6), 1);
        // Each set of beats at which the one ball is thrown but the empty one: 2^8 less 1.
        due("all(8, 1, 9)", x.all(8, 1, 9), 255);
        // By trying all; as many have three balls, by each throw h becoming 9 less h, the row backwards.
        due("all(8, 6, 9)", x.all(8, 6, 9), 36479);
        due("all(8, 3, 9)", x.all(8, 3, 9), 36479);
        due("all(8, 5, 9)", x.all(8, 5, 9), 86817);
        due("all(8, 4, 9)", x.all(8, 4, 9), 86817);
    }

    // "no THROW above m"

    private void allByHeights() {
        fresh();
        due("all(8, 1, 8)", x.all(8, 1, 8), 255);
        due("all(8, 1, 7): without 80000000, turned", x.all(8, 1, 7), 247);
        due("all(8, 6, 7): as of one ball", x.all(8, 6, 7), 247);
        int[] twos = {0, 0, 1, 3, 5, 7, 7, 7, 7};
        for (int m = 1; m <= 9; m++) {
            due("all(2, 3, " + m + ")", x.all(2, 3, m), twos[m - 1]);
        }
    }

    // 19: "the i-th (0 first), by THROW 0, then THROW 1, .., the lower ahead"

    private void nthFirstAndLast() {
        fresh();
        due("nth(8, 1, 9, 0)", x.nth(8, 1, 9, 0), 0);
        isPattern(0, "00000008");
        due("nth(8, 1, 9, 254)", x.nth(8, 1, 9, 254), 8);
        isPattern(0, "80000000");
        due("nth(8, 6, 7, 0)", x.nth(8, 6, 7, 0), 0);
        isPattern(0, "06777777");
        due("nth(8, 6, 7, 246)", x.nth(8, 6, 7, 246), 7);
        isPattern(0, "77777706");
        due("nth(8, 6, 9, 0)", x.nth(8, 6, 9, 0), 0);
        isPattern(0, "00888888");
        due("nth(8, 6, 9, 36478)", x.nth(8, 6, 9, 36478), 9);
        isPattern(0, "99999300");
        due("nth(1, 6, 9, 0)", x.nth(1, 6, 9, 0), 6);
        isPattern(0, "6");
        due("count(2)", x.count(2), 7);
    }

    private void nthInOrder() {
        String[] rows = {"003", "012", "030", "111", "120", "201", "300"};
        fresh();
        due("all(3, 1, 9)", x.all(3, 1, 9), rows.length);
        for (int i = 0; i < rows.length; i++) {
            due("nth(3, 1, 9, " + i + ")", x.nth(3, 1, 9, i), rows[i].charAt(0) - '0');
            isPattern(0, rows[i]);
            due("rank() of " + rows[i], x.rank(), i);
        }
        String[] lower = {"012", "111", "120", "201"};
        for (int i = 0; i < lower.length; i++) {
            due("nth(3, 1, 2, " + i + ")", x.nth(3, 1, 2, i), lower[i].charAt(0) - '0');
            isPattern(0, lower[i]);
        }
        due("nth(3, 1, 2, 4)", x.nth(3, 1, 2, 4), NONE);
    }

    // "NONE: not so many"

    private void nthOfNone() {
        fresh();
        due("nth(8, 1, 9, 255)", x.nth(8, 1, 9, 255), NONE);
        due("nth(8, 6, 9, 36479)", x.nth(8, 6, 9, 36479), NONE);
        due("nth(1, 6, 9, 1)", x.nth(1, 6, 9, 1), NONE);
        due("nth(1, 6, 5, 0) of an empty list", x.nth(1, 6, 5, 0), NONE);
        due("nth(8, 6, 5, 0) of an empty list", x.nth(8, 6, 5, 0), NONE);
        due("nth of 2^32: no int's wrap-around", x.nth(8, 1, 9, 1L << 32), NONE);
        due("nth of 2^32 and 1", x.nth(8, 1, 9, (1L << 32) + 1), NONE);
        due("nth of 2^31", x.nth(8, 1, 9, 1L << 31), NONE);
        due("nth of the highest", x.nth(8, 1, 9, Long.MAX_VALUE), NONE);
        isUnchanged("531");
    }

    // "BAD (i below 0)"

    private void nthRefused() {
        fresh();
        due("nth of -1", x.nth(8, 1, 9, -1), BAD);
        due("nth of the lowest", x.nth(8, 1, 9, Long.MIN_VALUE), BAD);
        due("nth of -2^32", x.nth(8, 1, 9, -(1L << 32)), BAD);
        due("nth of -1 of an empty list: BAD is ahead of NONE", x.nth(8, 6, 5, -1), BAD);
        due("nth of 9 throws, too far: BAD is ahead of NONE", x.nth(9, 1, 9, Long.MAX_VALUE), BAD);
        due("nth of 7 balls, too far: BAD is ahead of NONE", x.nth(8, 7, 9, Long.MAX_VALUE), BAD);
        due("nth of m 10, too far: BAD is ahead of NONE", x.nth(8, 1, 10, Long.MAX_VALUE), BAD);
        isUnchanged("531");
    }

    // 20: "which number THE PATTERN has among those of as many THROWS and BALLS as it has, m being 9"

    private void rankFirstAndLast() {
        start("00000008");
        due("rank() of 00000008", x.rank(), 0);
        start("80000000");
        due("rank() of 80000000", x.rank(), 254);
        start("00888888");
        due("rank() of 00888888", x.rank(), 0);
        start("99999300");
        due("rank() of 99999300", x.rank(), 36478);
        for (int b = 1; b <= 6; b++) {
            start("" + b);
            due("rank() of " + b, x.rank(), 0);
        }
    }

    private void rankIsByNine() {
        fresh();
        x.nth(3, 1, 2, 0);
        due("rank() of 012, the first up to 2", x.rank(), 1);
        x.nth(8, 1, 7, 246);
        isPattern(0, "70000001");
        due("rank() of 70000001, the last up to 7", x.rank(), 253);
        x.all(3, 1, 2);
        due("rank() once more, with another list looked at", x.rank(), 253);
    }

    // "NO: more than 8 THROWS, BALLS 0 or more than 6."

    private void rankRefused() {
        String[] rows = {
            "111111111", "1111111111", "000000009", "0", "00000000", "7", "77777777", "9", "0000000000", "999999999"
        };
        for (String row : rows) {
            start(row);
            due("rank() of " + row, x.rank(), NO);
            due("next() of " + row, x.next(), NO);
            isUnchanged(row);
        }
        start("11111111");
        due("rank() of eight throws: behind the 127 with throw 0 by 0", x.rank(), 127);
        start("66666666");
        due("rank() of eight throws, six balls: by trying all", x.rank(), 14683);
    }

    // 21: "the one behind it among these becomes THE PATTERN"; "NONE: it is the last"

    private void nextUpToTheLast() {
        String[] rows = {"003", "012", "030", "111", "120", "201", "300"};
        start(rows[0]);
        for (int i = 1; i < rows.length; i++) {
            due("next() to " + rows[i], x.next(), rows[i].charAt(0) - '0');
            isPattern(0, rows[i]);
            due("count(2)", x.count(2), i);
        }
        due("next() of the last", x.next(), NONE);
        isPattern(0, "300");
        due("count(2)", x.count(2), 6);
        for (String row : new String[] {"80000000", "99999300", "1", "6", "60"}) {
            start(row);
            due("next() of " + row, x.next(), NONE);
            isUnchanged(row);
        }
        start("70000001");
        due("next() to the last", x.next(), 8);
        isPattern(0, "80000000");
    }

    private void nextGoesBeyondM() {
        fresh();
        x.nth(3, 1, 2, 3);
        isPattern(0, "201");
        due("next() of the last up to 2", x.next(), 3);
        isPattern(0, "300");
    }

    private void nextRefused() {
        start("7");
        due("next() of the one of 7 balls: NO is ahead of NONE", x.next(), NO);
        start("0");
        due("next() of the one of no ball: NO is ahead of NONE", x.next(), NO);
        start("900000000");
        due("next() of the last of nine throws: NO is ahead of NONE", x.next(), NO);
        isUnchanged("900000000");
    }

    // 22: "PRIME is a PATTERN, if THE AIRS ahead of BEATS 0 to P less 1 are unlike."

    private void primeOfOne() {
        for (int h = 0; h <= 9; h++) {
            start("" + h);
            due("prime() of " + h, x.prime(), 1);
            start("" + h + h);
            due("prime() of " + h + h, x.prime(), 0);
        }
    }

    private void primeOfTen() {
        start("9000050006");
        int[] airs = {33, 272, 136, 68, 34, 17, 24, 12, 6, 3};
        for (int t = 0; t < airs.length; t++) {
            due("air(" + t + ") of 9000050006", x.air(t), airs[t]);
        }
        due("prime() of 9000050006", x.prime(), 1);
        start("900000000");
        due("prime() of 900000000", x.prime(), 1);
    }

    private void primeOfLikeAirs() {
        start("9000000001");
        due("prime() with airs 0 and 9 alike", x.prime(), 0);
        start("1900000000");
        due("prime() with airs 0 and 1 alike", x.prime(), 0);
        start("0000000019");
        due("prime() with airs 8 and 9 alike", x.prime(), 0);
        start("0000000000");
        due("prime() of ten by 0", x.prime(), 0);
    }

    // 23: "how many of ALL of p (1 to 6), b, m are PRIME, those that are TURNED ones of one another counted once"

    private void primesAtTheCorners() {
        fresh();
        for (int b = 1; b <= 6; b++) {
            due("primes(1, " + b + ", 9)", x.primes(1, b, 9), 1);
        }
        due("primes(1, 6, 5): none", x.primes(1, 6, 5), 0);
        due("primes(6, 6, 5): none", x.primes(6, 6, 5), 0);
        due("primes(6, 6, 6): 666666 is none", x.primes(6, 6, 6), 0);
        // One ball is in no state twice only if it is thrown once.
        due("primes(6, 1, 9): 600000", x.primes(6, 1, 9), 1);
        due("primes(6, 1, 6): 600000", x.primes(6, 1, 6), 1);
        due("primes(6, 1, 5): none", x.primes(6, 1, 5), 0);
        due("primes(6, 6, 7): by trying all", x.primes(6, 6, 7), 1);
        due("primes(6, 6, 9): by trying all", x.primes(6, 6, 9), 265);
        due("primes(6, 3, 9): by trying all", x.primes(6, 3, 9), 265);
        isUnchanged("531");
    }

    private void primesOnceForTurned() {
        fresh();
        due("primes(2, 1, 9): 02 and 20", x.primes(2, 1, 9), 1);
        due("primes(2, 6, 9): 39, 48, 57 and 75, 84, 93", x.primes(2, 6, 9), 3);
        due("primes(3, 1, 9): 003, 030 and 300", x.primes(3, 1, 9), 1);
    }

    private void primesRefused() {
        fresh();
        due("primes(6, 3, 5): by trying all", x.primes(6, 3, 5), 3);
        due("primes(7, 3, 5)", x.primes(7, 3, 5), BAD);
        due("primes(8, 1, 1)", x.primes(8, 1, 1), BAD);
        isUnchanged("531");
    }

    // 24: "DRAWN by z (0 to 9999)"

    private void drawByTheFirstAndTheLast() {
        fresh();
        // z = 0: x = 1, y = 2: 65525 modulo 255 is 245
        due("draw(8, 1, 9, 0)", x.draw(8, 1, 9, 0), 4);
        isPattern(0, "40003001");
        due("rank() of it", x.rank(), 245);
        // z = 9999: x = 79182082, y = 61503851: 51303 times 65521 and 41973: 3361465836 modulo 255 is 246
        due("draw(8, 1, 9, 9999)", x.draw(8, 1, 9, 9999), 4);
        isPattern(0, "40004000");
        due("rank() of it", x.rank(), 246);
        // z = 9998: 555769590 modulo 255 is 150; z = 1: 1494129155 modulo 255 is 5
        x.draw(8, 1, 9, 9998);
        due("rank() by 9998", x.rank(), 150);
        x.draw(8, 1, 9, 1);
        due("rank() by 1", x.rank(), 5);
        due("count(2)", x.count(2), 4);
        // of seven: 65525 modulo 7 is 5, 3361465836 modulo 7 is 1
        due("draw(2, 3, 9, 0)", x.draw(2, 3, 9, 0), 5);
        due("draw(2, 3, 9, 9999)", x.draw(2, 3, 9, 9999), 1);
        due("draw(8, 6, 6, 9999) of one", x.draw(8, 6, 6, 9999), 6);
    }

    // "NONE: there is none."

    private void drawOfNone() {
        fresh();
        due("draw(8, 6, 5, 0)", x.draw(8, 6, 5, 0), NONE);
        due("draw(1, 2, 1, 9999)", x.draw(1, 2, 1, 9999), NONE);
        isUnchanged("531");
    }

    private void drawRefused() {
        fresh();
        for (int z : new int[] {-1, 10000, LOW, HIGH}) {
            due("draw by " + z, x.draw(8, 1, 9, z), BAD);
            due("draw by " + z + " of none: BAD is ahead of NONE", x.draw(8, 6, 5, z), BAD);
        }
        due("draw(0, 6, 5, 0): BAD is ahead of NONE", x.draw(0, 6, 5, 0), BAD);
        isUnchanged("531");
    }
}
