/** Patterns of throws, one each beat, in which no two balls come down at one beat. */
public final class BallsInAir {
    public static final int BAD = -1, NO = -2, FULL = -3, NONE = -4;

    private static final int MOST_BYTES = 40;
    private static final int MOST_THROWS = 10;
    private static final int HIGHEST = 9;
    private static final int LAST_BEAT = 100000;
    private static final int MOST_HANDS = 5;
    private static final int MOST_UNDONE = 8;
    private static final int MOST_KEPT = 2;

    private static final int LISTED_THROWS = 8;
    private static final int LISTED_BALLS = 6;
    private static final int PRIME_THROWS = 6;
    private static final int LAST_DRAW = 9999;
    private static final long DRAW_MODULUS = 65521;

    private static final int AIRS = 512;
    private static final int TOP_BIT = 256;
    private static final int MOST_MENDING = 9;

    private static final int STEP_THROWS = 5;
    private static final int STEP_CODES = 100000;
    // A change swaps two landing beats, so five throws have 5! arrangements at most.
    private static final int STEP_ARRANGEMENTS = 120;
    private static final int[] PLACE_VALUES = {1, 10, 100, 1000, 10000};

    private final Text text;
    private final Pattern pattern;
    private final Pattern another;
    private final Pattern trial;
    private final Shelf past;
    private final Shelf kept;
    private final Census census;
    private final Passage passage;
    private final Swaps swaps;

    public BallsInAir() {
        text = new Text();
        pattern = new Pattern();
        another = new Pattern();
        trial = new Pattern();
        past = new Shelf(MOST_UNDONE);
        kept = new Shelf(MOST_KEPT);
        census = new Census();
        passage = new Passage();
        swaps = new Swaps();
    }

    // ---- patterns

    public int write(int n, long v) {
        if (n < 1 || n > 8) {
            return BAD;
        }
        if (text.length() + n > MOST_BYTES) {
            return FULL;
        }
        for (int k = n - 1; k >= 0; k--) {
            text.append((int) (v >>> (8 * k)) & 255);
        }
        return text.length();
    }

    public int wipe() {
        int length = text.length();
        text.clear();
        return length;
    }

    public int fault() {
        return text.firstFault();
    }

    public int clash() {
        if (text.firstFault() != NONE) {
            return NO;
        }
        text.copyInto(trial);
        return trial.firstClash();
    }

    public int lay(int which) {
        if (!isWhich(which)) {
            return BAD;
        }
        if (text.firstFault() != NONE) {
            return NO;
        }
        text.copyInto(trial);
        if (trial.firstClash() != NONE) {
            return NO;
        }
        chosen(which).copy(trial);
        if (which == 0) {
            past.clear();
        }
        return trial.length();
    }

    public int toss(int which, int i) {
        if (!isWhich(which) || i < 0) {
            return BAD;
        }
        Pattern asked = chosen(which);
        return i < asked.length() ? asked.heightAt(i) : NONE;
    }

    public int balls(int which) {
        return isWhich(which) ? chosen(which).ballCount() : BAD;
    }

    public int air(int t) {
        return isBeat(t) ? pattern.airAhead(t) : BAD;
    }

    // ---- changes

    public int turn(int k) {
        if (!pattern.hasPlace(k)) {
            return BAD;
        }
        trial.copy(pattern);
        for (int i = 0; i < pattern.length(); i++) {
            trial.put(i, pattern.heightAt(i + k));
        }
        return becomeTrial();
    }

    public int backwards() {
        trial.copy(pattern);
        for (int i = 0; i < pattern.length(); i++) {
            trial.put(pattern.length() - 1 - pattern.landing(i), pattern.heightAt(i));
        }
        return becomeTrial();
    }

    public int raise(int d) {
        if (d < -HIGHEST || d > HIGHEST) {
            return BAD;
        }
        trial.copy(pattern);
        for (int i = 0; i < pattern.length(); i++) {
            int height = pattern.heightAt(i) + d;
            if (!isHeight(height)) {
                return NO;
            }
            trial.put(i, height);
        }
        becomeTrial();
        return pattern.ballCount();
    }

    public int change(int i, int j) {
        if (!pattern.hasPlace(i) || !pattern.hasPlace(j) || i >= j) {
            return BAD;
        }
        int up = pattern.heightAt(j) + (j - i);
        int down = pattern.heightAt(i) - (j - i);
        if (!isHeight(up) || !isHeight(down)) {
            return NO;
        }
        trial.copy(pattern);
        trial.put(i, up);
        trial.put(j, down);
        becomeTrial();
        return up;
    }

    public int undo() {
        if (past.used() == 0) {
            return NO;
        }
        past.takeLast(pattern);
        return past.used();
    }

    // ---- balls, hands

    public int cycle(int t) {
        if (t == -1) {
            return pattern.cycleCount();
        }
        return pattern.hasPlace(t) ? pattern.cycleBits(t) : BAD;
    }

    public int ball(int t) {
        if (!isBeat(t)) {
            return BAD;
        }
        return pattern.heightAt(t) == 0 ? NONE : pattern.ballThrownAt(t);
    }

    public int hands(int n, int a, int b) {
        if (n < 1 || n > MOST_HANDS || a < 0 || a >= n || b < 0 || b >= n) {
            return BAD;
        }
        int found = 0;
        for (int t = a; t < pattern.length() * n; t += n) {
            int height = pattern.heightAt(t);
            if (height > 0 && (t + height) % n == b) {
                found++;
            }
        }
        return found;
    }

    // ---- all patterns

    public long all(int p, int b, int m) {
        if (!isListed(p, b, m)) {
            return BAD;
        }
        census.prepare(p, m);
        return census.total(b);
    }

    public int nth(int p, int b, int m, long i) {
        if (!isListed(p, b, m) || i < 0) {
            return BAD;
        }
        census.prepare(p, m);
        if (i >= census.total(b)) {
            return NONE;
        }
        census.pick(b, i, trial);
        return becomeTrial();
    }

    public long rank() {
        return isRanked() ? placeOfPattern() : NO;
    }

    public int next() {
        if (!isRanked()) {
            return NO;
        }
        int behind = placeOfPattern() + 1;
        int balls = pattern.ballCount();
        if (behind >= census.total(balls)) {
            return NONE;
        }
        census.pick(balls, behind, trial);
        return becomeTrial();
    }

    public int prime() {
        return pattern.hasUnlikeAirs() ? 1 : 0;
    }

    public int primes(int p, int b, int m) {
        if (!isListed(p, b, m) || p > PRIME_THROWS) {
            return BAD;
        }
        census.prepare(p, m);
        return census.primeRounds(b, trial);
    }

    public int draw(int p, int b, int m, int z) {
        if (!isListed(p, b, m) || z < 0 || z > LAST_DRAW) {
            return BAD;
        }
        census.prepare(p, m);
        int total = census.total(b);
        if (total < 1) {
            return NONE;
        }
        census.pick(b, drawnNumber(z) % total, trial);
        return becomeTrial();
    }

    // ---- ways

    public int in(int i) {
        if (i < -1) {
            return BAD;
        }
        return passage.answer(ground(pattern.ballCount()), pattern.airAhead(0), i);
    }

    public int out(int k, int i) {
        if (!pattern.hasPlace(k) || i < -1) {
            return BAD;
        }
        return passage.answer(pattern.airAhead(k), ground(pattern.ballCount()), i);
    }

    public int across(int k, int i) {
        if (!pattern.hasPlace(k) || i < -1) {
            return BAD;
        }
        return passage.answer(pattern.airAhead(k), another.airAhead(0), i);
    }

    public int steps() {
        if (pattern.length() != another.length() || pattern.length() > STEP_THROWS) {
            return NO;
        }
        return swaps.fewest(pattern, another);
    }

    // ---- slips

    public int together(int k, int h) {
        int refusal = slipRefusal(k, h);
        return refusal != 0 ? refusal : meets(k, h) ? 1 : 0;
    }

    public int mended(int k, int h) {
        int refusal = slipRefusal(k, h);
        if (refusal != 0) {
            return refusal;
        }
        if (meets(k, h)) {
            return NONE;
        }
        return passage.throwsToMeet(thrown(pattern.airAhead(k), h), pattern, k + 1);
    }

    public int keep() {
        if (kept.used() >= MOST_KEPT) {
            return FULL;
        }
        kept.add(pattern);
        return kept.used();
    }

    public int back() {
        if (kept.used() == 0) {
            return NO;
        }
        kept.takeLast(pattern);
        past.clear();
        return kept.used();
    }

    public int count(int what) {
        switch (what) {
            case 0:
                return pattern.length();
            case 1:
                return another.length();
            case 2:
                return past.used();
            case 3:
                return kept.used();
            case 4:
                return text.length();
            default:
                return BAD;
        }
    }

    private int becomeTrial() {
        past.add(pattern);
        pattern.copy(trial);
        return pattern.heightAt(0);
    }

    private Pattern chosen(int which) {
        return which == 0 ? pattern : another;
    }

    private boolean isRanked() {
        int balls = pattern.ballCount();
        return pattern.length() <= LISTED_THROWS && balls >= 1 && balls <= LISTED_BALLS;
    }

    private int placeOfPattern() {
        census.prepare(pattern.length(), HIGHEST);
        return census.placeOf(pattern);
    }

    private int slipRefusal(int k, int h) {
        if (!pattern.hasPlace(k) || h < 1 || h > HIGHEST || h == pattern.heightAt(k)) {
            return BAD;
        }
        return pattern.heightAt(k) == 0 ? NO : 0;
    }

    private boolean meets(int k, int h) {
        return isTaken(pattern.airAhead(k), h);
    }

    private static boolean isWhich(int which) {
        return which == 0 || which == 1;
    }

    private static boolean isBeat(int t) {
        return t >= 0 && t <= LAST_BEAT;
    }

    private static boolean isHeight(int h) {
        return h >= 0 && h <= HIGHEST;
    }

    private static boolean isListed(int p, int b, int m) {
        return p >= 1 && p <= LISTED_THROWS && b >= 1 && b <= LISTED_BALLS && m >= 1 && m <= HIGHEST;
    }

    private static long drawnNumber(int z) {
        long x = 7919L * z + 1;
        long y = 6151L * z + 2;
        return x * x % DRAW_MODULUS * DRAW_MODULUS + y * y % DRAW_MODULUS;
    }

    private static int ground(int balls) {
        return (1 << balls) - 1;
    }

    private static boolean isAir(int air) {
        return air >= 0 && air < AIRS;
    }

    /** Whether another ball comes down when one thrown now by h (1 to 9) does. */
    private static boolean isTaken(int air, int h) {
        return (air >> h & 1) != 0;
    }

    /** The air one beat later, by a throw h now. */
    private static int thrown(int air, int h) {
        return h < 1 ? air >> 1 : air >> 1 | 1 << (h - 1);
    }

    /** The bytes that are written and not wiped. */
    private static final class Text {
        private final int[] bytes = new int[MOST_BYTES];
        private int length = 0;

        int length() {
            return length;
        }

        void clear() {
            length = 0;
        }

        void append(int value) {
            if (length < MOST_BYTES) {
                bytes[length] = value;
                length++;
            }
        }

        int firstFault() {
            if (length == 0) {
                return 0;
            }
            for (int i = 0; i < length; i++) {
                if (i >= MOST_THROWS || bytes[i] < '0' || bytes[i] > '9') {
                    return i;
                }
            }
            return NONE;
        }

        /** For a text without fault. */
        void copyInto(Pattern target) {
            target.resize(length);
            for (int i = 0; i < target.length(); i++) {
                target.put(i, bytes[i] - '0');
            }
        }
    }

    /** A row of throws, 531 at first. */
    private static final class Pattern {
        private final int[] heights = new int[MOST_THROWS];
        private int length = 3;

        Pattern() {
            heights[0] = 5;
            heights[1] = 3;
            heights[2] = 1;
        }

        int length() {
            return length;
        }

        /** Keeps at least one throw, as the length divides. */
        void resize(int throwCount) {
            length = Math.max(1, Math.min(throwCount, MOST_THROWS));
        }

        boolean hasPlace(int i) {
            return i >= 0 && i < length;
        }

        void put(int i, int height) {
            if (hasPlace(i)) {
                heights[i] = height;
            }
        }

        int heightAt(int beat) {
            return length < 1 ? 0 : heights[Math.floorMod(beat, length)];
        }

        void copy(Pattern source) {
            length = source.length;
            for (int i = 0; i < length; i++) {
                heights[i] = source.heights[i];
            }
        }

        /** At which beat, modulo the length, the throw of a beat comes down. */
        int landing(int beat) {
            return length < 1 ? 0 : Math.floorMod(beat + heightAt(beat), length);
        }

        int firstClash() {
            int seen = 0;
            for (int i = 0; i < length; i++) {
                int bit = 1 << landing(i);
                if ((seen & bit) != 0) {
                    return i;
                }
                seen |= bit;
            }
            return NONE;
        }

        int ballCount() {
            int sum = 0;
            for (int i = 0; i < length; i++) {
                sum += heights[i];
            }
            return length < 1 ? 0 : sum / length;
        }

        int airAhead(int beat) {
            int air = 0;
            for (int ago = 1; ago <= HIGHEST; ago++) {
                int left = heightAt(beat - ago) - ago;
                if (left >= 0) {
                    air |= 1 << left;
                }
            }
            return air;
        }

        boolean hasUnlikeAirs() {
            int early = airAhead(0);
            for (int i = 0; i < length; i++) {
                int late = early;
                for (int j = i + 1; j < length; j++) {
                    late = thrown(late, heights[j - 1]);
                    if (late == early) {
                        return false;
                    }
                }
                early = thrown(early, heights[i]);
            }
            return true;
        }

        /** Whether none of its turned ones is ahead of it. */
        boolean isFirstOfTurned() {
            for (int k = 1; k < length; k++) {
                int more = 0;
                for (int i = 0; i < length && more == 0; i++) {
                    more = heightAt(i + k) - heights[i];
                }
                if (more < 0) {
                    return false;
                }
            }
            return true;
        }

        int cycleBits(int start) {
            int bits = 0;
            int place = start;
            for (int i = 0; i < length; i++) {
                bits |= 1 << place;
                place = landing(place);
            }
            return bits;
        }

        int cycleCount() {
            int cycles = 0;
            for (int i = 0; i < length; i++) {
                boolean isLowest = (cycleBits(i) & ((1 << i) - 1)) == 0;
                if (heights[i] > 0 && isLowest) {
                    cycles++;
                }
            }
            return cycles;
        }

        /** How many beats later a ball thrown at a beat (not by 0) is again at that place of the row. */
        private int cycleBeats(int beat) {
            int bits = cycleBits(Math.floorMod(beat, Math.max(1, length)));
            int sum = 0;
            for (int i = 0; i < length; i++) {
                if ((bits >> i & 1) != 0) {
                    sum += heights[i];
                }
            }
            return Math.max(1, sum);
        }

        /** The beat at which the ball that comes down at this one was thrown; the beat itself: no ball comes. */
        private int thrownBefore(int beat) {
            for (int ago = 1; ago <= HIGHEST; ago++) {
                if (heightAt(beat - ago) == ago) {
                    return beat - ago;
                }
            }
            return beat;
        }

        /** The number of the ball that is thrown at a beat (0 or later), where the throw is not 0. */
        int ballThrownAt(int beat) {
            // The same ball comes round after a cycle's beats, so that the way back is short.
            int first = beat % cycleBeats(beat);
            int before = thrownBefore(first);
            for (int i = 0; i < MOST_THROWS * HIGHEST && before >= 0; i++) {
                first = before;
                before = thrownBefore(first);
            }
            int number = 0;
            for (int t = 0; t < first; t++) {
                if (thrownBefore(t) < 0) {
                    number++;
                }
            }
            return number;
        }
    }

    /** The latest so many patterns, the oldest given up for a new one. */
    private static final class Shelf {
        private final Pattern[] places;
        private int start = 0;
        private int used = 0;

        Shelf(int size) {
            places = new Pattern[Math.max(1, size)];
            for (int i = 0; i < places.length; i++) {
                places[i] = new Pattern();
            }
        }

        int used() {
            return used;
        }

        void clear() {
            used = 0;
        }

        void add(Pattern source) {
            places[(start + used) % places.length].copy(source);
            if (used < places.length) {
                used++;
            } else {
                start = (start + 1) % places.length;
            }
        }

        void takeLast(Pattern target) {
            if (used > 0) {
                used--;
                target.copy(places[(start + used) % places.length]);
            }
        }
    }

    /**
     * All true patterns of so many throws, none above a top, without making them. Throw i comes down at the place
     * (i and it) modulo the length, so many rounds on; the rounds of all throws together are the balls.
     */
    private static final class Census {
        private static final int COLUMNS = LISTED_BALLS + 1;

        // By the set of places taken and the rounds still to go: in how many ways the row can be filled up.
        private final int[] fillings = new int[(1 << LISTED_THROWS) * COLUMNS];
        private int length = 0;
        private int top = 0;

        /** For a length of 1 to 8; the table that stands is used again. */
        void prepare(int wantedLength, int wantedTop) {
            if (wantedLength == length && wantedTop == top) {
                return;
            }
            length = Math.max(1, Math.min(wantedLength, LISTED_THROWS));
            top = wantedTop;
            int full = (1 << length) - 1;
            for (int i = 0; i < (full + 1) * COLUMNS; i++) {
                fillings[i] = 0;
            }
            fillings[full * COLUMNS] = 1;
            for (int taken = full - 1; taken >= 0; taken--) {
                fillRow(taken);
            }
        }

        private void fillRow(int taken) {
            int place = Integer.bitCount(taken);
            for (int height = 0; height <= top; height++) {
                int bit = placeBit(place + height);
                if ((taken & bit) == 0) {
                    int rounds = roundsOf(place + height);
                    for (int left = rounds; left < COLUMNS; left++) {
                        fillings[taken * COLUMNS + left] += fillings[(taken | bit) * COLUMNS + left - rounds];
                    }
                }
            }
        }

        private int placeBit(int landing) {
            return length < 1 ? 0 : 1 << landing % length;
        }

        private int roundsOf(int landing) {
            return length < 1 ? 0 : landing / length;
        }

        /** How many patterns go on from this throw at the place behind those taken. */
        private int fillingsBy(int taken, int roundsLeft, int height) {
            int landing = Integer.bitCount(taken) + height;
            int bit = placeBit(landing);
            int left = roundsLeft - roundsOf(landing);
            if ((taken & bit) != 0 || left < 0) {
                return 0;
            }
            int cell = (taken | bit) * COLUMNS + left;
            return cell < fillings.length ? fillings[cell] : 0;
        }

        /** For balls 1 to 6. */
        int total(int balls) {
            return balls >= 0 && balls < COLUMNS ? fillings[balls] : 0;
        }

        /** For a number below the total. */
        void pick(int balls, long number, Pattern target) {
            target.resize(length);
            int taken = 0;
            int rounds = balls;
            long left = number;
            for (int place = 0; place < length; place++) {
                int height = 0;
                int here = fillingsBy(taken, rounds, height);
                while (left >= here && height < top) {
                    left -= here;
                    height++;
                    here = fillingsBy(taken, rounds, height);
                }
                target.put(place, height);
                taken |= placeBit(place + height);
                rounds -= roundsOf(place + height);
            }
        }

        /** For a pattern of the length and below the top that the table stands for. */
        int placeOf(Pattern asked) {
            int taken = 0;
            int rounds = asked.ballCount();
            int ahead = 0;
            for (int place = 0; place < length; place++) {
                int own = asked.heightAt(place);
                for (int height = 0; height < own; height++) {
                    ahead += fillingsBy(taken, rounds, height);
                }
                taken |= placeBit(place + own);
                rounds -= roundsOf(place + own);
            }
            return ahead;
        }

        /** How many are prime, those that are turned ones of one another counted once. */
        int primeRounds(int balls, Pattern trial) {
            trial.resize(length);
            return primesFrom(0, 0, balls, trial);
        }

        /**
         * How many prime patterns, the first of their turned ones, go on from the throws that trial has ahead of this
         * place. The first one has no throw below its throw 0, so lower ones need not be looked at.
         */
        private int primesFrom(int place, int taken, int roundsLeft, Pattern trial) {
            if (place >= length || place >= LISTED_THROWS) {
                return trial.isFirstOfTurned() && trial.hasUnlikeAirs() ? 1 : 0;
            }
            int found = 0;
            for (int height = place == 0 ? 0 : trial.heightAt(0); height <= top; height++) {
                if (fillingsBy(taken, roundsLeft, height) > 0) {
                    trial.put(place, height);
                    int landing = place + height;
                    found += primesFrom(place + 1, taken | placeBit(landing), roundsLeft - roundsOf(landing), trial);
                }
            }
            return found;
        }
    }

    /** Rows of throws from one air to another. */
    private static final class Passage {
        private static final int UNSEEN = -1;

        // How many throws an air is away from the one that is to be reached.
        private final int[] away = new int[AIRS];
        private final int[] queue = new int[AIRS];
        private int queued = 0;

        // Bit n: the air can be reached by n throws.
        private final int[] reached = new int[AIRS];

        /** How many throws the first shortest way has (i = -1), its i-th; NONE. */
        int answer(int from, int to, int i) {
            if (!isAir(from) || !isAir(to)) {
                return NONE;
            }
            measure(from, to);
            int left = away[from];
            if (left == UNSEEN) {
                return NONE;
            }
            if (i < 0) {
                return left;
            }
            if (i >= left) {
                return NONE;
            }
            int air = from;
            for (int k = 0; k < i; k++) {
                air = thrown(air, firstThrow(air));
            }
            return firstThrow(air);
        }

        /** Goes back from the end, so that each air nearer to it than the start is measured. */
        private void measure(int from, int to) {
            for (int air = 0; air < AIRS; air++) {
                away[air] = UNSEEN;
            }
            queued = 0;
            enqueue(to, 0);
            for (int k = 0; k < queued && k < AIRS && away[from] == UNSEEN; k++) {
                enqueueAirsBefore(queue[k]);
            }
        }

        private void enqueueAirsBefore(int air) {
            int distance = away[air] + 1;
            enqueueShifted(air, 0, distance);
            for (int bit = TOP_BIT; bit > 0; bit >>= 1) {
                if ((air & bit) != 0) {
                    enqueueShifted(air & ~bit, 1, distance);
                }
            }
        }

        private void enqueueShifted(int rest, int lowest, int distance) {
            if ((rest & TOP_BIT) == 0) {
                enqueue(rest << 1 | lowest, distance);
            }
        }

        private void enqueue(int air, int distance) {
            if (isAir(air) && away[air] == UNSEEN && queued < AIRS) {
                away[air] = distance;
                queue[queued] = air;
                queued++;
            }
        }

        /** The lowest throw that leads nearer. */
        private int firstThrow(int air) {
            if ((air & 1) == 0) {
                return 0;
            }
            for (int h = 1; h <= HIGHEST; h++) {
                if (!isTaken(air, h) && away[thrown(air, h)] == away[air] - 1) {
                    return h;
                }
            }
            return 0;
        }

        /** The fewest throws (1 to 9) from an air ahead of a beat until it is as the pattern has it then; NONE. */
        int throwsToMeet(int start, Pattern pattern, int beat) {
            if (!isAir(start)) {
                return NONE;
            }
            for (int air = 0; air < AIRS; air++) {
                reached[air] = 0;
            }
            reached[start] = 1;
            for (int n = 1; n <= MOST_MENDING; n++) {
                reachBy(n);
                int due = pattern.airAhead(beat + n);
                if (isAir(due) && (reached[due] >> n & 1) != 0) {
                    return n;
                }
            }
            return NONE;
        }

        private void reachBy(int n) {
            for (int air = 0; air < AIRS; air++) {
                if ((reached[air] >> (n - 1) & 1) != 0) {
                    reachOnFrom(air, 1 << n);
                }
            }
        }

        private void reachOnFrom(int air, int mark) {
            if ((air & 1) == 0) {
                reached[thrown(air, 0)] |= mark;
                return;
            }
            for (int h = 1; h <= HIGHEST; h++) {
                if (!isTaken(air, h)) {
                    reached[thrown(air, h)] |= mark;
                }
            }
        }
    }

    /** The fewest changes from one pattern to another one; a pattern is a number, throw 0 its lowest figure. */
    private static final class Swaps {
        private final int[] queue = new int[STEP_ARRANGEMENTS];
        private final int[] depths = new int[STEP_ARRANGEMENTS];
        private final long[] seen = new long[(STEP_CODES + 63) / 64];
        private int queued = 0;

        /** For patterns of equally many throws, five at most. */
        int fewest(Pattern from, Pattern to) {
            int goal = codeOf(to);
            int answer = NONE;
            queued = 0;
            enqueue(codeOf(from), 0);
            for (int k = 0; k < queued && k < STEP_ARRANGEMENTS && answer == NONE; k++) {
                if (queue[k] == goal) {
                    answer = depths[k];
                } else {
                    enqueueChanged(queue[k], from.length(), depths[k] + 1);
                }
            }
            forgetSeen();
            return answer;
        }

        private static int codeOf(Pattern source) {
            int code = 0;
            for (int i = 0; i < source.length() && i < STEP_THROWS; i++) {
                code += source.heightAt(i) * PLACE_VALUES[i];
            }
            return code;
        }

        private void enqueueChanged(int code, int length, int depth) {
            int end = Math.min(length, STEP_THROWS);
            for (int j = 1; j < end; j++) {
                for (int i = 0; i < j; i++) {
                    int early = code / PLACE_VALUES[i] % 10;
                    int late = code / PLACE_VALUES[j] % 10;
                    int up = late + (j - i);
                    int down = early - (j - i);
                    if (isHeight(up) && isHeight(down)) {
                        enqueue(code + (up - early) * PLACE_VALUES[i] + (down - late) * PLACE_VALUES[j], depth);
                    }
                }
            }
        }

        private void enqueue(int code, int depth) {
            if (code < 0 || code >= STEP_CODES || queued >= STEP_ARRANGEMENTS) {
                return;
            }
            long bit = 1L << (code & 63);
            if ((seen[code >> 6] & bit) == 0) {
                seen[code >> 6] |= bit;
                queue[queued] = code;
                depths[queued] = depth;
                queued++;
            }
        }

        private void forgetSeen() {
            for (int k = 0; k < queued; k++) {
                seen[queue[k] >> 6] = 0;
            }
        }
    }
}
