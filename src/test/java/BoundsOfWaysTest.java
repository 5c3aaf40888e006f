/** Promises 25 to 28: each sentence that names a bound, a way of no throw, a wrap-around or a refusal, by itself. */
public final class BoundsOfWaysTest extends Bench {
    private static final String TEN = "9000000001";

    public static void main(String[] args) {
        BoundsOfWaysTest test = new BoundsOfWaysTest();
        test.inOfNoThrow();
        test.inByTheHighest();
        test.inIsTheFirstOfTheShortest();
        test.inUpToItsLast();
        test.inRefused();
        test.outOfNoThrow();
        test.outByNone();
        test.outIsTheFirstOfTheShortest();
        test.outFromEachBeat();
        test.outRefused();
        test.acrossOfNoThrow();
        test.acrossByThePlacesOfThePattern();
        test.acrossToBeatNoneOfAnother();
        test.acrossOfEightThrows();
        test.acrossOfUnlikeBalls();
        test.acrossRefused();
        test.stepsOfOneToFive();
        test.stepsOfMoreThanFive();
        test.stepsOfUnlikeLengths();
        test.stepsOfNone();
        test.stepsThereAndBack();
        test.checks.end();
    }

    private void isIn(String row) {
        due("in(-1)", x.in(-1), row.length());
        for (int i = 0; i < row.length(); i++) {
            due("in(" + i + ") of " + row, x.in(i), row.charAt(i) - '0');
        }
        due("in(" + row.length() + ")", x.in(row.length()), NONE);
    }

    private void isOut(int k, String row) {
        due("out(" + k + ", -1)", x.out(k, -1), row.length());
        for (int i = 0; i < row.length(); i++) {
            due("out(" + k + ", " + i + ") of " + row, x.out(k, i), row.charAt(i) - '0');
        }
        due("out(" + k + ", " + row.length() + ")", x.out(k, row.length()), NONE);
    }

    private void isAcross(int k, String row) {
        due("across(" + k + ", -1)", x.across(k, -1), row.length());
        for (int i = 0; i < row.length(); i++) {
            due("across(" + k + ", " + i + ") of " + row, x.across(k, i), row.charAt(i) - '0');
        }
        due("across(" + k + ", " + row.length() + ")", x.across(k, row.length()), NONE);
    }

    // 25: "IN: from GROUND of BALLS to THE AIR ahead of BEAT 0"; "how many (i = -1), the i-th"

    private void inOfNoThrow() {
        for (int h = 0; h <= 9; h++) {
            start("" + h);
            isIn("");
            due("in(0) of " + h, x.in(0), NONE);
        }
        start(TEN);
        isIn("");
    }

    private void inByTheHighest() {
        start("000000009");
        isIn("9");
        start("090000000");
        isIn("2");
    }

    /** From 111 to 1001001: by 5 and 7 (or 8 and 4) at the least. */
    private void inIsTheFirstOfTheShortest() {
        start("900");
        isIn("57");
        start("60");
        isIn("45");
        start("51");
        isIn("4");
    }

    private void inUpToItsLast() {
        start("60");
        due("in(1)", x.in(1), 5);
        due("in(2)", x.in(2), NONE);
        due("in(3)", x.in(3), NONE);
        due("in(HIGH)", x.in(HIGH), NONE);
    }

    private void inRefused() {
        start("60");
        due("in(-2)", x.in(-2), BAD);
        due("in(LOW)", x.in(LOW), BAD);
        start("0");
        due("in(-2) of no ball: BAD is ahead of NONE", x.in(-2), BAD);
    }

    // 26: "OUT: from THE AIR ahead of BEAT k to GROUND"

    private void outOfNoThrow() {
        for (int h = 0; h <= 9; h++) {
            start("" + h);
            isOut(0, "");
        }
        start(TEN);
        isOut(0, "");
        isOut(9, "");
    }

    // "if no ball comes down, 0 is thrown"

    private void outByNone() {
        start(TEN);
        isOut(1, "00000000");
        isOut(8, "0");
    }

    /** From 1001001 the last ball comes down at 6, so that 1110000 is the first ground: 1, 1, 2 and 2 are the lowest. */
    private void outIsTheFirstOfTheShortest() {
        start("900");
        isOut(0, "1122");
        start("51");
        isOut(0, "2");
    }

    private void outFromEachBeat() {
        start("531");
        isOut(0, "");
        // From 10011: to 11100 by 2 at 0 and 2 at 1.
        isOut(1, "22");
        // From 1101: to 1110 by 1.
        isOut(2, "1");
    }

    private void outRefused() {
        for (String row : new String[] {"3", "51", "531", TEN}) {
            start(row);
            for (int k : new int[] {-1, row.length(), row.length() + 1, LOW, HIGH}) {
                due("out(" + k + ", -1) of " + row, x.out(k, -1), BAD);
                due("out(" + k + ", 0) of " + row, x.out(k, 0), BAD);
                due("out(" + k + ", HIGH): BAD is ahead of NONE", x.out(k, HIGH), BAD);
            }
            due("out(0, -2) of " + row, x.out(0, -2), BAD);
            due("out(0, LOW) of " + row, x.out(0, LOW), BAD);
            due("out(" + (row.length() - 1) + ", HIGH)", x.out(row.length() - 1, HIGH), NONE);
        }
    }

    // 27: "ACROSS: from THE AIR ahead of BEAT k to that of ANOTHER ahead of its BEAT 0"

    private void acrossOfNoThrow() {
        fresh();
        isAcross(0, "");
        start("9");
        layAnother("9999999999");
        isAcross(0, "");
        start("0");
        layAnother("0000000000");
        isAcross(0, "");
        start("51");
        layAnother("51");
        isAcross(0, "");
        due("across(0, 0) of no throw", x.across(0, 0), NONE);
    }

    private void acrossByThePlacesOfThePattern() {
        start("1");
        layAnother(TEN);
        isAcross(0, "");
        due("across(1, -1): the pattern has one place, another ten", x.across(1, -1), BAD);
        due("across(9, -1)", x.across(9, -1), BAD);
        start(TEN);
        layAnother("1");
        isAcross(9, "");
        isAcross(8, "0");
        due("across(10, -1) of ten", x.across(10, -1), BAD);
    }

    private void acrossToBeatNoneOfAnother() {
        start("3");
        layAnother("51");
        isAcross(0, "4");
        layAnother("15");
        isAcross(0, "45");
        layAnother("900");
        isAcross(0, "57");
        start("900");
        layAnother("3");
        isAcross(0, "1122");
        start("1");
        layAnother("000000009");
        isAcross(0, "9");
    }

    /** From 101010101 to 110011001: balls come down at 8, 11, 12, 15 and 16 then, the latter two by 9. */
    private void acrossOfEightThrows() {
        start("19");
        layAnother("1199");
        isAcross(0, "12347799");
    }

    // "NONE": no throw makes balls more or fewer

    private void acrossOfUnlikeBalls() {
        String[][] pairs = {{"0", "1"}, {"1", "0"}, {"8", "9"}, {"9", "8"}, {"531", "4"}, {"9", "0"}, {TEN, "2222"}};
        for (String[] pair : pairs) {
            String of = " from " + pair[0] + " to " + pair[1];
            start(pair[0]);
            layAnother(pair[1]);
            due("across(0, -1)" + of, x.across(0, -1), NONE);
            due("across(0, 0)" + of, x.across(0, 0), NONE);
            due("across(0, HIGH)" + of, x.across(0, HIGH), NONE);
        }
    }

    private void acrossRefused() {
        for (String row : new String[] {"3", "51", "531", TEN}) {
            for (String other : new String[] {row, "9"}) {
                start(row);
                layAnother(other);
                for (int k : new int[] {-1, row.length(), row.length() + 1, LOW, HIGH}) {
                    due("across(" + k + ", -1) of " + row, x.across(k, -1), BAD);
                    due("across(" + k + ", HIGH): BAD is ahead of NONE", x.across(k, HIGH), BAD);
                }
                due("across(0, -2): BAD is ahead of NONE", x.across(0, -2), BAD);
                due("across(0, LOW): BAD is ahead of NONE", x.across(0, LOW), BAD);
            }
        }
    }

    // 28: "how often at the least THE PATTERN has to be CHANGED (at any i and j) to be ANOTHER; none"

    private void isSteps(String from, String to, int due) {
        start(from);
        layAnother(to);
        due("steps() from " + from + " to " + to, x.steps(), due);
        isPattern(0, from);
        due("count(2) then", x.count(2), 0);
    }

    private void stepsOfOneToFive() {
        isSteps("3", "3", 0);
        isSteps("11", "11", 0);
        isSteps("11", "20", 1);
        isSteps("111", "300", 2);
        isSteps("1111", "4000", 3);
        isSteps("11111", "50000", 4);
        isSteps("55555", "55555", 0);
        isSteps("00000", "00000", 0);
        isSteps("99999", "99999", 0);
        isSteps("55555", "64555", 1);
        isSteps("55555", "95551", 1);
    }

    // "NO: not as many THROWS, or more than 5, in both."

    private void stepsOfMoreThanFive() {
        isSteps("333333", "333333", NO);
        isSteps("333333", "444444", NO);
        isSteps("3333333333", "3333333333", NO);
    }

    private void stepsOfUnlikeLengths() {
        isSteps("3", "33", NO);
        isSteps("33", "3", NO);
        isSteps("3", "44", NO);
        isSteps("33333", "333333", NO);
        isSteps("333333", "33333", NO);
        isSteps("3333333333", "3", NO);
    }

    // "NONE": a change never makes balls more or fewer, nor lets one come down at another beat than before

    private void stepsOfNone() {
        isSteps("3", "4", NONE);
        isSteps("0", "9", NONE);
        isSteps("33", "44", NONE);
        isSteps("531", "630", NONE);
        isSteps("00000", "99999", NONE);
        isSteps("20", "02", NONE);
    }

    private void stepsThereAndBack() {
        isSteps("20", "11", 1);
        isSteps("50000", "11111", 4);
        isSteps("441", "531", 1);
    }
}
