/**
 * "Nothing changes then": of two objects made by the same calls the one gets a call that is refused, or that only
 * answers; then all that can be seen of both has to be the same.
 */
public final class RefusedCallsTest extends Bench {
    private static final String TEN = "9000000001";

    private interface Call {
        long on(BallsInAir object);
    }

    private interface State {
        void make(BallsInAir object);
    }

    public static void main(String[] args) {
        RefusedCallsTest test = new RefusedCallsTest();
        test.lookSeesChanges();
        test.texts();
        test.laying();
        test.asking();
        test.changes();
        test.undoing();
        test.ballsAndHands();
        test.lists();
        test.emptyLists();
        test.listsOfOthers();
        test.ways();
        test.slips();
        test.keeping();
        test.answersChangeNothing();
        test.checks.end();
    }

    // ---- states

    private static void layRow(BallsInAir object, int which, String row) {
        object.wipe();
        write(object, row);
        object.lay(which);
    }

    private static void atFirst(BallsInAir object) {
        object.count(0);
    }

    /** Some of all: three that can be undone, one kept, a text that is true. */
    private static void inUse(BallsInAir object) {
        layRow(object, 0, "7531");
        layRow(object, 1, "51");
        object.turn(1);
        object.keep();
        object.raise(1);
        object.change(0, 1);
        object.wipe();
        write(object, "423");
    }

    /** All full: eight that can be undone, of more, two kept, forty bytes. */
    private static void full(BallsInAir object) {
        layRow(object, 0, TEN);
        layRow(object, 1, "9753197531");
        for (int i = 0; i < 11; i++) {
            object.turn(1);
            object.keep();
        }
        object.wipe();
        for (int i = 0; i < 5; i++) {
            object.write(8, 0x3333333333333333L);
        }
    }

    /** A pattern that was changed, with a text behind that can't be laid. */
    private static void with(BallsInAir object, String row, String text) {
        layRow(object, 0, row);
        object.keep();
        object.turn(0);
        object.wipe();
        write(object, text);
    }

    // ---- looks

    private static void seeRow(BallsInAir object, int which, StringBuilder seen) {
        int size = object.count(which);
        seen.append(' ').append(size).append(':');
        for (int i = 0; i < size; i++) {
            seen.append(object.toss(which, i));
        }
    }

    /** All that can be seen; the object is used up by it. */
    private static String look(BallsInAir object) {
        StringBuilder seen = new StringBuilder();
        seeRow(object, 0, seen);
        seeRow(object, 1, seen);
        for (int what = 2; what <= 4; what++) {
            seen.append(' ').append(object.count(what));
        }
        seen.append(" balls ").append(object.balls(0)).append(' ').append(object.balls(1));
        seen.append(" air ").append(object.air(0)).append(" rank ").append(object.rank());
        seen.append(" in ").append(object.in(-1)).append(" across ").append(object.across(0, -1));
        seen.append(" all ").append(object.all(4, 3, 9)).append(" text ").append(object.fault());
        seen.append(' ').append(object.clash()).append(" undo");
        for (int left = object.undo(); left >= 0; left = object.undo()) {
            seen.append(' ').append(left);
            seeRow(object, 0, seen);
        }
        seen.append(" back");
        for (int left = object.back(); left >= 0; left = object.back()) {
            seen.append(' ').append(left);
            seeRow(object, 0, seen);
        }
        seen.append(" text ").append(object.lay(0)).append(' ').append(object.write(1, '3'));
        seeRow(object, 0, seen);
        return seen.toString();
    }

    private void refused(String name, State state, Call call, long due) {
        BallsInAir one = new BallsInAir();
        BallsInAir two = new BallsInAir();
        state.make(one);
        state.make(two);
        due(name, call.on(one), due);
        String after = look(one);
        String before = look(two);
        checks.holds(name + " changes nothing:\n" + before + "\n" + after, before.equals(after));
    }

    /** In each of the states that have something to lose. */
    private void refusedAnywhere(String name, Call call, long due) {
        refused(name + " at first", RefusedCallsTest::atFirst, call, due);
        refused(name + " in use", RefusedCallsTest::inUse, call, due);
        refused(name + " where all is full", RefusedCallsTest::full, call, due);
    }

    private void refusedFor(String row, String name, Call call, long due) {
        refused(name + " of " + row, object -> with(object, row, "51"), call, due);
    }

    /** A look would be worth nothing if it did not see what a call that is not refused changes. */
    private void lookSeesChanges() {
        Call[] calls = {
            object -> object.write(1, '5'), object -> object.wipe(), object -> object.lay(0), object -> object.lay(1),
            object -> object.turn(0), object -> object.turn(1), object -> object.backwards(), object -> object.raise(0),
            object -> object.change(0, 1), object -> object.undo(), object -> object.nth(4, 5, 9, 0),
            object -> object.next(), object -> object.draw(4, 5, 9, 0), object -> object.keep(), object -> object.back()
        };
        for (int i = 0; i < calls.length; i++) {
            BallsInAir one = new BallsInAir();
            BallsInAir two = new BallsInAir();
            inUse(one);
            inUse(two);
            checks.holds("call " + i + " is not refused", calls[i].on(one) >= 0);
            checks.holds("call " + i + " is seen", !look(one).equals(look(two)));
        }
    }

    // ---- calls

    private void texts() {
        for (int n : new int[] {0, 9, -1, LOW, HIGH}) {
            refusedAnywhere("write(" + n + ")", object -> object.write(n, 0x3533), BAD);
        }
        for (int n = 1; n <= 8; n++) {
            int bytes = n;
            refused("write(" + n + ") to a full text", RefusedCallsTest::full, object -> object.write(bytes, 0), FULL);
            State almost = object -> {
                for (int i = 0; i < 41 - bytes; i++) {
                    object.write(1, 'x');
                }
            };
            refused("write(" + n + ") of one too many", almost, object -> object.write(bytes, 0), FULL);
        }
        String[] faulty = {"", "x", "5x", "33333333333"};
        for (String text : faulty) {
            refused("clash() of " + text, object -> with(object, "531", text), object -> object.clash(), NO);
        }
    }

    private void laying() {
        for (int which : new int[] {-1, 2, LOW, HIGH}) {
            refusedAnywhere("lay(" + which + ")", object -> object.lay(which), BAD);
        }
        String[] wrong = {"", "x", "5x", "33333333333", "21", "543", "5555555554"};
        for (String text : wrong) {
            State state = object -> with(object, "531", text);
            refused("lay(0) of " + text, state, object -> object.lay(0), NO);
            refused("lay(1) of " + text, state, object -> object.lay(1), NO);
        }
        refused("lay(0) of forty", RefusedCallsTest::full, object -> object.lay(0), NO);
        refused("lay(1) of forty", RefusedCallsTest::full, object -> object.lay(1), NO);
    }

    private void asking() {
        for (int which : new int[] {-1, 2, LOW, HIGH}) {
            refusedAnywhere("toss(" + which + ", 0)", object -> object.toss(which, 0), BAD);
            refusedAnywhere("balls(" + which + ")", object -> object.balls(which), BAD);
        }
        for (int which = 0; which <= 1; which++) {
            int asked = which;
            refusedAnywhere("toss(" + which + ", -1)", object -> object.toss(asked, -1), BAD);
            refusedAnywhere("toss(" + which + ", 10)", object -> object.toss(asked, 10), NONE);
        }
        refusedAnywhere("air(-1)", object -> object.air(-1), BAD);
        refusedAnywhere("air(100001)", object -> object.air(100001), BAD);
        for (int what : new int[] {-1, 5, LOW, HIGH}) {
            refusedAnywhere("count(" + what + ")", object -> object.count(what), BAD);
        }
    }

    private void changes() {
        for (int k : new int[] {-1, 10, LOW, HIGH}) {
            refusedAnywhere("turn(" + k + ")", object -> object.turn(k), BAD);
            refusedAnywhere("change(0, " + k + ")", object -> object.change(0, k), BAD);
            refusedAnywhere("change(" + k + ", 1)", object -> object.change(k, 1), BAD);
        }
        refusedAnywhere("change(1, 1)", object -> object.change(1, 1), BAD);
        refusedAnywhere("change(2, 1)", object -> object.change(2, 1), BAD);
        for (int d : new int[] {-10, 10, LOW, HIGH}) {
            refusedAnywhere("raise(" + d + ")", object -> object.raise(d), BAD);
        }
        refusedAnywhere("raise(9)", object -> object.raise(9), NO);
        refusedAnywhere("raise(-9)", object -> object.raise(-9), NO);
        refusedFor("531", "raise(5)", object -> object.raise(5), NO);
        refusedFor("531", "raise(-2)", object -> object.raise(-2), NO);
        refusedFor("000000009", "raise(1)", object -> object.raise(1), NO);
        refusedFor("990", "change(0, 1), above 9", object -> object.change(0, 1), NO);
        refusedFor("00", "change(0, 1), below 0", object -> object.change(0, 1), NO);
        refusedFor(TEN, "change(0, 9)", object -> object.change(0, 9), NO);
        refusedFor("3", "change(0, 0)", object -> object.change(0, 0), BAD);
        refusedFor("3", "turn(1)", object -> object.turn(1), BAD);
    }

    private void undoing() {
        refused("undo() at first", RefusedCallsTest::atFirst, object -> object.undo(), NO);
        State used = object -> {
            inUse(object);
            object.undo();
            object.undo();
            object.undo();
        };
        refused("undo() of no more", used, object -> object.undo(), NO);
        State usedFull = object -> {
            full(object);
            for (int i = 0; i < 8; i++) {
                object.undo();
            }
        };
        refused("undo() of a ninth", usedFull, object -> object.undo(), NO);
    }

    private void ballsAndHands() {
        for (int t : new int[] {-2, 10, LOW, HIGH}) {
            refusedAnywhere("cycle(" + t + ")", object -> object.cycle(t), BAD);
        }
        refusedAnywhere("ball(-1)", object -> object.ball(-1), BAD);
        refusedAnywhere("ball(100001)", object -> object.ball(100001), BAD);
        refusedFor("060", "ball(0)", object -> object.ball(0), NONE);
        refusedAnywhere("hands(0, 0, 0)", object -> object.hands(0, 0, 0), BAD);
        refusedAnywhere("hands(6, 0, 0)", object -> object.hands(6, 0, 0), BAD);
        refusedAnywhere("hands(5, 5, 0)", object -> object.hands(5, 5, 0), BAD);
        refusedAnywhere("hands(5, 0, 5)", object -> object.hands(5, 0, 5), BAD);
    }

    private void lists() {
        int[][] wrong = {{0, 3, 9}, {9, 3, 9}, {4, 0, 9}, {4, 7, 9}, {4, 3, 0}, {4, 3, 10}};
        for (int[] of : wrong) {
            String told = "(" + of[0] + ", " + of[1] + ", " + of[2];
            refusedAnywhere("all" + told, object -> object.all(of[0], of[1], of[2]), BAD);
            refusedAnywhere("nth" + told, object -> object.nth(of[0], of[1], of[2], 0), BAD);
            refusedAnywhere("primes" + told, object -> object.primes(of[0], of[1], of[2]), BAD);
            refusedAnywhere("draw" + told, object -> object.draw(of[0], of[1], of[2], 0), BAD);
        }
        refusedAnywhere("primes(7, 3, 9)", object -> object.primes(7, 3, 9), BAD);
        refusedAnywhere("nth of -1", object -> object.nth(4, 3, 9, -1), BAD);
        refusedAnywhere("nth of the lowest", object -> object.nth(4, 3, 9, Long.MIN_VALUE), BAD);
        refusedAnywhere("draw by -1", object -> object.draw(4, 3, 9, -1), BAD);
        refusedAnywhere("draw by 10000", object -> object.draw(4, 3, 9, 10000), BAD);
    }

    private void emptyLists() {
        refusedAnywhere("nth(3, 1, 9, 7)", object -> object.nth(3, 1, 9, 7), NONE);
        refusedAnywhere("nth(8, 1, 9, 255)", object -> object.nth(8, 1, 9, 255), NONE);
        refusedAnywhere("nth of the highest", object -> object.nth(3, 1, 9, Long.MAX_VALUE), NONE);
        refusedAnywhere("nth of an empty list", object -> object.nth(8, 6, 5, 0), NONE);
        refusedAnywhere("draw of an empty list", object -> object.draw(8, 6, 5, 9999), NONE);
    }

    private void listsOfOthers() {
        for (String row : new String[] {"0", "7", "77777777", "111111111", TEN}) {
            refusedFor(row, "rank()", object -> object.rank(), NO);
            refusedFor(row, "next()", object -> object.next(), NO);
        }
        for (String row : new String[] {"1", "6", "60", "300", "80000000", "99999300"}) {
            refusedFor(row, "next()", object -> object.next(), NONE);
        }
    }

    private void ways() {
        for (int i : new int[] {-2, LOW}) {
            refusedAnywhere("in(" + i + ")", object -> object.in(i), BAD);
            refusedAnywhere("out(0, " + i + ")", object -> object.out(0, i), BAD);
            refusedAnywhere("across(0, " + i + ")", object -> object.across(0, i), BAD);
        }
        for (int k : new int[] {-1, 10, LOW, HIGH}) {
            refusedAnywhere("out(" + k + ", 0)", object -> object.out(k, 0), BAD);
            refusedAnywhere("across(" + k + ", 0)", object -> object.across(k, 0), BAD);
        }
        refusedAnywhere("in(99)", object -> object.in(99), NONE);
        refusedAnywhere("out(0, 99)", object -> object.out(0, 99), NONE);
        refusedAnywhere("across(0, 99)", object -> object.across(0, 99), NONE);
        refusedFor("4", "across(0, -1)", object -> object.across(0, -1), NONE);
        refusedFor("4", "steps()", object -> object.steps(), NO);
        refusedFor("444", "steps()", object -> object.steps(), NONE);
        refused("steps() of ten", RefusedCallsTest::full, object -> object.steps(), NO);
    }

    private void slips() {
        for (int k : new int[] {-1, 10, LOW, HIGH}) {
            refusedAnywhere("together(" + k + ", 4)", object -> object.together(k, 4), BAD);
            refusedAnywhere("mended(" + k + ", 4)", object -> object.mended(k, 4), BAD);
        }
        for (int h : new int[] {0, 10, LOW, HIGH}) {
            refusedAnywhere("together(0, " + h + ")", object -> object.together(0, h), BAD);
            refusedAnywhere("mended(0, " + h + ")", object -> object.mended(0, h), BAD);
        }
        refusedFor("531", "together(0, 5)", object -> object.together(0, 5), BAD);
        refusedFor("531", "mended(0, 5)", object -> object.mended(0, 5), BAD);
        refusedFor("060", "together(0, 5)", object -> object.together(0, 5), NO);
        refusedFor("060", "mended(0, 5)", object -> object.mended(0, 5), NO);
        refusedFor("3", "mended(0, 1)", object -> object.mended(0, 1), NONE);
    }

    private void keeping() {
        refused("keep() of a third", RefusedCallsTest::full, object -> object.keep(), FULL);
        State changed = object -> {
            full(object);
            object.turn(3);
        };
        refused("keep() of a third, another pattern", changed, object -> object.keep(), FULL);
        State notKept = object -> {
            object.turn(1);
            object.raise(1);
            write(object, "51");
        };
        refused("back() at first", RefusedCallsTest::atFirst, object -> object.back(), NO);
        refused("back() of nothing", notKept, object -> object.back(), NO);
    }

    /** Calls that answer and are told to change nothing, each on the same object. */
    private static long ask(BallsInAir object) {
        object.fault();
        object.clash();
        object.toss(0, 0);
        object.toss(1, 0);
        object.balls(0);
        object.balls(1);
        object.air(100000);
        object.cycle(-1);
        object.cycle(0);
        object.ball(100000);
        object.hands(5, 0, 4);
        object.all(8, 6, 9);
        object.rank();
        object.prime();
        object.primes(6, 5, 9);
        object.in(-1);
        object.in(0);
        object.out(0, -1);
        object.across(0, 0);
        object.steps();
        object.together(0, 9);
        object.mended(0, 9);
        return object.count(5);
    }

    private void answersChangeNothing() {
        refusedAnywhere("all that only answers", RefusedCallsTest::ask, BAD);
        for (String row : new String[] {"0", "9", "11111", "97531", "99999300", TEN}) {
            refusedFor(row, "all that only answers", RefusedCallsTest::ask, BAD);
        }
    }
}
