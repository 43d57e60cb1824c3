import java.util.NoSuchElementException;

/** A bench for numbers written by bases that are no whole ones, and by bases of rings of one or two parts. */
public final class DigitBench {
    public static final int NONE = -1;

    private static final int NEGATIVE_DIGIT = -2;
    private static final int NOT_COMPARED = 2;
    private static final int SLOTS = 10;
    private static final int LAST_WHOLE = 50000;
    private static final int LAST_ROWS = 16;
    private static final int LAST_ONE = 60;
    private static final int WIDEST = 10;
    private static final int LAST_WRITTEN = 100000;

    private final Tape tape;
    private final Root root;
    private final Num[] slots;
    private final Rest rest;
    private final Told toldDigits;
    private final RowValue rowValue;
    private final Trail trail;
    private final Ring members;
    private final Walk latest;
    private final Walk probe;
    private RoundList known;
    private RoundList spare;
    private int ends;

    public DigitBench() {
        tape = new Tape();
        root = new Root();
        slots = new Num[SLOTS];
        for (int s = 0; s < SLOTS; s++) {
            slots[s] = new Num();
        }
        rest = new Rest();
        toldDigits = new Told();
        rowValue = new RowValue();
        trail = new Trail();
        members = new Ring();
        latest = new Walk();
        probe = new Walk();
        known = new RoundList();
        spare = new RoundList();
    }

    public int feed(int a, int b, int c, int d, int e) {
        if (!tape.hasRoomForFive()) {
            return NONE;
        }
        tape.append(a);
        tape.append(b);
        tape.append(c);
        tape.append(d);
        tape.append(e);
        return tape.size;
    }

    public boolean end(int n) {
        if (n < 0 || n > tape.size) {
            return false;
        }
        tape.size = n;
        return true;
    }

    public boolean base(int a, int b) {
        if (!root.change(a, b)) {
            return false;
        }
        for (int s = 0; s < SLOTS; s++) {
            slots[s].there = false;
        }
        toldDigits.kind = NONE;
        return true;
    }

    public boolean number(int s, int u, int v, int d) {
        return isSlot(s) && slots[s].take(u, v, d);
    }

    public boolean make(int s, int i, int j, int what) {
        if (!isSlot(s) || !hasNumber(i) || !hasNumber(j)) {
            return false;
        }
        switch (what) {
            case 0:
                return root.join(slots[s], slots[i], slots[j], 1);
            case 1:
                return root.join(slots[s], slots[i], slots[j], -1);
            case 2:
                return root.multiply(slots[s], slots[i], slots[j]);
            case 3:
                return root.divide(slots[s], slots[i], slots[j]);
            default:
                return false;
        }
    }

    public int part(int i, int what) throws NoSuchElementException {
        if (!hasNumber(i) || what < 0 || what > 2) {
            throw new NoSuchElementException("no such part of a number");
        }
        Num num = slots[i];
        return (int) (what == 0 ? num.u : what == 1 ? num.v : num.d);
    }

    public int compare(int i, int j) {
        if (!hasNumber(i) || !hasNumber(j)) {
            return NOT_COMPARED;
        }
        Num p = slots[i];
        Num q = slots[j];
        return root.sign(p.u * q.d - q.u * p.d, p.v * q.d - q.v * p.d);
    }

    public long floor(int i) throws NoSuchElementException {
        if (!hasNumber(i)) {
            throw new NoSuchElementException("the slot has no number");
        }
        return root.wholeBelow(slots[i]);
    }

    public int digits(int i) {
        if (!hasNumberFromZero(i)) {
            return NONE;
        }
        toldDigits.tell(root, slots[i], rest, trail);
        return toldDigits.kind;
    }

    public int told(int what) {
        if (toldDigits.kind == NONE) {
            return NONE;
        }
        switch (what) {
            case 0:
                return toldDigits.top;
            case 1:
                return toldDigits.ahead;
            case 2:
                return toldDigits.length;
            default:
                return NONE;
        }
    }

    public int digit(int k) {
        return toldDigits.at(k);
    }

    public boolean value(int s, int point, int round) {
        boolean stands = isSlot(s)
                && point >= 0 && point <= tape.size
                && round >= 0 && round <= point
                && rowValue.reckon(root, tape, point, round)
                && slots[s].copy(rowValue.result);
        tape.size = 0;
        return stands;
    }

    public int allowed() {
        int answer = tape.hasNegative() ? NEGATIVE_DIGIT : firstAboveBar();
        tape.size = 0;
        return answer;
    }

    public int one(int k) throws NoSuchElementException {
        if (k < 1 || k > LAST_ONE) {
            throw new NoSuchElementException("no such digit of one");
        }
        return root.digitOfOne(k);
    }

    public long rows(int n) throws NoSuchElementException {
        if (n < 0 || n > LAST_ROWS) {
            throw new NoSuchElementException("no such length of a row");
        }
        return root.rowCount(n);
    }

    public boolean whole(int s, int n) {
        if (!isSlot(s) || n < 0 || n > LAST_WHOLE) {
            return false;
        }
        return root.putWhole(slots[s], n);
    }

    public int rank(int i) {
        if (!hasNumberFromZero(i)) {
            return NONE;
        }
        rest.of(slots[i]);
        long smaller = 0;
        for (int k = rest.greatestPower(root); k >= 0; k--) {
            smaller += rest.peel(root, k) * root.rowCount(k);
        }
        return rest.isNothing() && smaller <= LAST_WHOLE ? (int) smaller : NONE;
    }

    public boolean ring(boolean one, int p, int q, int y, int z) {
        return one ? members.becomeSingle(y) : members.becomeDouble(p, q, y, z);
    }

    public boolean set() {
        boolean stands = members.takeDigits(tape);
        tape.size = 0;
        return stands;
    }

    public int write(int y, int z) {
        int w = members.parts == 1 ? 0 : z;
        if (members.size == 0 || isBeyond(y, LAST_WRITTEN) || isBeyond(w, LAST_WRITTEN)) {
            return NONE;
        }
        latest.go(members, trail, y, w);
        return latest.kind;
    }

    public int written(int what) {
        if (latest.kind == NONE || what < 0 || what > 1) {
            return NONE;
        }
        return what == 0 ? latest.ahead : latest.length;
    }

    public int place(int k) {
        return latest.at(k);
    }

    public int rounds(int r) {
        if (!surveyAll(r)) {
            return NONE;
        }
        RoundList former = known;
        known = spare;
        spare = former;
        return known.size;
    }

    public int round(int k, int what) throws NoSuchElementException {
        if (k < 0 || k >= known.size || what < 0 || what > 2) {
            throw new NoSuchElementException("no such round");
        }
        return what == 0 ? known.lengths[k] : what == 1 ? known.ys[k] : known.zs[k];
    }

    public int ending(int r) {
        return surveyAll(r) ? ends : NONE;
    }

    public int count(int what) {
        switch (what) {
            case 0:
                return root.a;
            case 1:
                return root.b;
            case 2:
                return root.top();
            case 3:
                return numbersThere();
            case 4:
                return tape.size;
            case 5:
                return members.norm;
            case 6:
                return members.size;
            case 7:
                return members.parts;
            default:
                return NONE;
        }
    }

    private static boolean isSlot(int s) {
        return s >= 0 && s < SLOTS;
    }

    private boolean hasNumber(int i) {
        return isSlot(i) && slots[i].there;
    }

    private boolean hasNumberFromZero(int i) {
        return hasNumber(i) && root.sign(slots[i].u, slots[i].v) >= 0;
    }

    private int numbersThere() {
        int there = 0;
        for (int s = 0; s < SLOTS; s++) {
            if (slots[s].there) {
                there++;
            }
        }
        return there;
    }

    private static boolean isBeyond(long part, long limit) {
        return part < -limit || part > limit;
    }

    private int firstAboveBar() {
        for (int start = 0; start < tape.size; start++) {
            if (isAboveBar(start)) {
                return start;
            }
        }
        return NONE;
    }

    private boolean isAboveBar(int start) {
        for (int i = start; i < tape.size; i++) {
            int digit = tape.at(i);
            int bar = root.digitOfBar(i - start + 1);
            if (digit != bar) {
                return digit > bar;
            }
        }
        return false;
    }

    /** Fills the spare list, so that the rounds known before outlive a survey that comes to nothing. */
    private boolean surveyAll(int r) {
        if (members.size == 0 || r < 0 || r > WIDEST) {
            return false;
        }
        int width = members.parts == 1 ? 0 : r;
        ends = 0;
        spare.size = 0;
        for (int y = -r; y <= r; y++) {
            for (int z = -width; z <= width; z++) {
                probe.go(members, trail, y, z);
                if (probe.kind == Walk.LOST) {
                    return false;
                }
                noteOutcome();
            }
        }
        return true;
    }

    private void noteOutcome() {
        if (probe.kind == Walk.ENDS) {
            ends++;
        } else {
            int least = trail.leastOf(probe.ahead, probe.length);
            spare.include(probe.length, (int) trail.firstAt(least), (int) trail.secondAt(least));
        }
    }

    /** The greatest common divisor without its sign; 0 for two zeros. */
    private static long common(long m, long n) {
        long big = Math.abs(m);
        long small = Math.abs(n);
        // Euclid needs at most 92 steps for two longs.
        for (int step = 0; step < 100 && small != 0; step++) {
            long left = big % small;
            big = small;
            small = left;
        }
        return big;
    }

    /** The bytes that wait to be digits. */
    private static final class Tape {
        static final int LENGTH = 200;
        static final int FIVE_INTS = 20;

        final byte[] bytes = new byte[LENGTH];
        int size;

        boolean hasRoomForFive() {
            return size + FIVE_INTS <= LENGTH;
        }

        void append(int number) {
            for (int shift = 24; shift >= 0 && size < LENGTH; shift -= 8) {
                bytes[size] = (byte) (number >> shift);
                size++;
            }
        }

        int at(int i) {
            return i >= 0 && i < size ? bytes[i] : 0;
        }

        boolean hasNegative() {
            for (int i = 0; i < size; i++) {
                if (bytes[i] < 0) {
                    return true;
                }
            }
            return false;
        }
    }

    /** (u + v x) / d in its least terms, or nothing. */
    private static final class Num {
        static final long PART_LIMIT = 65536;
        static final long DIVISOR_LIMIT = 1000;

        boolean there;
        long u;
        long v;
        long d = 1;

        /** False, and nothing changes, if it would be beyond. */
        boolean take(long newU, long newV, long newD) {
            if (newD <= 0) {
                return false;
            }
            long shared = common(common(newU, newV), newD);
            if (shared <= 0) {
                return false;
            }
            long leastU = newU / shared;
            long leastV = newV / shared;
            long leastD = newD / shared;
            if (isBeyond(leastU, PART_LIMIT) || isBeyond(leastV, PART_LIMIT) || leastD > DIVISOR_LIMIT) {
                return false;
            }
            u = leastU;
            v = leastV;
            d = leastD;
            there = true;
            return true;
        }

        boolean copy(Num other) {
            return take(other.u, other.v, other.d);
        }
    }

    /** THE BASE x, the greater root of x x = a x + b, with what is reckoned by it alone. */
    private static final class Root {
        /** The rows below hold what the smallest x (1.618..) needs. */
        static final int ROW = 48;
        /** Any power with such a part is greater than every NUMBER. */
        static final long POWER_ENOUGH = 1000000;

        int a;
        int b;
        long square;
        final long[] powerU = new long[ROW];
        final long[] powerV = new long[ROW];
        final long[] rowCounts = new long[ROW];
        int powers;
        int counted;

        Root() {
            change(1, 1);
        }

        /** False, and nothing changes, if a and b make no BASE. */
        boolean change(int newA, int newB) {
            if (newA < 1 || newA > 9 || newB < -8 || newB > 9 || newB == 0) {
                return false;
            }
            // Then x is never a fraction: a a + 4 b lies between a a and the square of a + 2 or
            // a - 2, and the one square between these is odd where it is even, or turned round.
            if (newB > 0 ? newB > newA : newA + newB < 2) {
                return false;
            }
            a = newA;
            b = newB;
            square = (long) a * a + 4L * b;
            fillPowers();
            fillRowCounts();
            return true;
        }

        private void fillPowers() {
            powerU[0] = 1;
            powerV[0] = 0;
            powers = 1;
            for (int k = 1; k < ROW && powerV[k - 1] <= POWER_ENOUGH; k++) {
                powerU[k] = b * powerV[k - 1];
                powerV[k] = powerU[k - 1] + a * powerV[k - 1];
                powers++;
            }
        }

        /** Rows of k digits split at their first place below the BAR; the sums fold to x's own rule. */
        private void fillRowCounts() {
            rowCounts[0] = 1;
            rowCounts[1] = top() + 1;
            counted = 2;
            for (int k = 2; k < ROW && (k <= LAST_ROWS || rowCounts[k - 1] <= POWER_ENOUGH); k++) {
                rowCounts[k] = a * rowCounts[k - 1] + b * rowCounts[k - 2];
                counted++;
            }
        }

        int top() {
            return b > 0 ? a : a - 1;
        }

        int digitOfOne(int k) {
            if (b > 0) {
                return k == 1 ? a : k == 2 ? b : 0;
            }
            return k == 1 ? a - 1 : a + b - 1;
        }

        int digitOfBar(int k) {
            if (b > 0) {
                return k % 2 == 1 ? a : b - 1;
            }
            return digitOfOne(k);
        }

        long rowCount(int k) {
            return k >= 0 && k < counted ? rowCounts[k] : 0;
        }

        /** The sign of u + v x. */
        int sign(long u, long v) {
            // 2 (u + v x) is plain + v times the root of the square, which is no whole number.
            long plain = 2 * u + a * v;
            if (plain >= 0 && v >= 0) {
                return plain == 0 && v == 0 ? 0 : 1;
            }
            if (plain <= 0 && v <= 0) {
                return -1;
            }
            boolean plainIsMore = plain * plain > square * v * v;
            return plainIsMore == plain > 0 ? 1 : -1;
        }

        long wholeBelow(Num num) {
            long rootPart = squareRoot(square * num.v * num.v);
            long below = num.v >= 0 ? rootPart : -rootPart - 1;
            long twice = 2 * num.d;
            return twice > 0 ? Math.floorDiv(2 * num.u + a * num.v + below, twice) : 0;
        }

        /** The greatest whole number whose square is not above n; n is below 2^40 here. */
        private static long squareRoot(long n) {
            long found = 0;
            for (int bit = 20; bit >= 0; bit--) {
                long tried = found + (1L << bit);
                if (tried * tried <= n) {
                    found = tried;
                }
            }
            return found;
        }

        boolean join(Num to, Num i, Num j, int sign) {
            return to.take(i.u * j.d + sign * j.u * i.d, i.v * j.d + sign * j.v * i.d, i.d * j.d);
        }

        boolean multiply(Num to, Num i, Num j) {
            return to.take(i.u * j.u + b * i.v * j.v, i.u * j.v + i.v * j.u + a * i.v * j.v, i.d * j.d);
        }

        /** i times what x's other root makes of j, by j's norm. */
        boolean divide(Num to, Num i, Num j) {
            long norm = j.u * j.u + a * j.u * j.v - b * j.v * j.v;
            if (norm == 0) {
                return false;
            }
            long scale = norm > 0 ? j.d : -j.d;
            long otherU = j.u + a * j.v;
            long otherV = -j.v;
            long u = i.u * otherU + b * i.v * otherV;
            long v = i.u * otherV + i.v * otherU + a * i.v * otherV;
            return to.take(scale * u, scale * v, i.d * Math.abs(norm));
        }

        boolean multiplyByX(Num num) {
            return num.take(b * num.v, num.u + a * num.v, num.d);
        }

        /** 1 / x is (x - a) / b. */
        boolean divideByX(Num num) {
            int turn = b > 0 ? 1 : -1;
            return num.take(turn * (b * num.v - a * num.u), turn * num.u, num.d * turn * b);
        }

        /** The digits of n by the row counts are those of WHOLE one n by the powers. */
        boolean putWhole(Num to, int n) {
            long left = n;
            long u = 0;
            long v = 0;
            for (int k = Math.min(counted, powers) - 1; k >= 0; k--) {
                if (rowCounts[k] > 0) {
                    long digit = left / rowCounts[k];
                    left -= digit * rowCounts[k];
                    u += digit * powerU[k];
                    v += digit * powerV[k];
                }
            }
            return to.take(u, v, 1);
        }
    }

    /** What is left of a NUMBER from 0 on while digits go off it. */
    private static final class Rest {
        long u;
        long v;
        long d = 1;

        void of(Num num) {
            u = num.u;
            v = num.v;
            d = num.d;
        }

        boolean isNothing() {
            return u == 0 && v == 0;
        }

        int greatestPower(Root root) {
            int k = 0;
            for (int next = 1; next < root.powers && holds(root, next); next++) {
                k = next;
            }
            return k;
        }

        private boolean holds(Root root, int k) {
            return root.sign(u - d * root.powerU[k], v - d * root.powerV[k]) >= 0;
        }

        /** Takes x^k off as often as it goes, and tells how often. */
        int peel(Root root, int k) {
            int times = 0;
            if (k < 0 || k >= root.powers) {
                return times;
            }
            for (int tried = root.top(); tried > 0 && holds(root, k); tried--) {
                u -= d * root.powerU[k];
                v -= d * root.powerV[k];
                times++;
            }
            return times;
        }

        void multiplyByX(Root root) {
            long oldU = u;
            u = root.b * v;
            v = oldU + root.a * v;
        }
    }

    /** The greedy digits told last. */
    private static final class Told {
        static final int ENDS = 0;
        static final int COMES_BACK = 1;
        static final int NEITHER = 2;
        static final int PLACES = 400;

        final int[] front = new int[Root.ROW];
        final int[] behind = new int[PLACES];
        int kind = NONE;
        int top;
        int ahead;
        int length;

        void tell(Root root, Num num, Rest rest, Trail trail) {
            rest.of(num);
            top = Math.min(rest.greatestPower(root), front.length - 1);
            for (int k = top; k >= 0; k--) {
                front[k] = rest.peel(root, k);
            }
            tellBehind(root, rest, trail);
        }

        private void tellBehind(Root root, Rest rest, Trail trail) {
            trail.clear();
            for (int places = 0; places <= PLACES; places++) {
                if (rest.isNothing()) {
                    settle(ENDS, places, 0);
                    return;
                }
                int earlier = trail.meet(rest.u, rest.v);
                if (earlier != NONE) {
                    settle(COMES_BACK, earlier, places - earlier);
                    return;
                }
                if (places < PLACES) {
                    rest.multiplyByX(root);
                    behind[places] = rest.peel(root, 0);
                }
            }
            settle(NEITHER, PLACES, 0);
        }

        private void settle(int newKind, int newAhead, int newLength) {
            kind = newKind;
            ahead = newAhead;
            length = newLength;
        }

        int at(int k) {
            if (kind == NONE) {
                return NONE;
            }
            if (k >= 0) {
                return k <= top && k < front.length ? front[k] : 0;
            }
            // As a long, for the least int has no counterpart.
            long index = -1L - k;
            if (length > 0 && index >= ahead) {
                index = ahead + (index - ahead) % length;
            }
            if (index < ahead + length && index < PLACES) {
                return behind[(int) index];
            }
            return kind == NEITHER ? NONE : 0;
        }
    }

    /** A sum that may pass through what is no NUMBER. */
    private static final class Sum {
        long u;
        long v;
        long d = 1;

        void clear() {
            u = 0;
            v = 0;
            d = 1;
        }

        void add(int times, Num num) {
            long newU = u * num.d + times * num.u * d;
            long newV = v * num.d + times * num.v * d;
            long newD = d * num.d;
            long shared = common(common(newU, newV), newD);
            if (shared > 0) {
                u = newU / shared;
                v = newV / shared;
                d = newD / shared;
            }
        }
    }

    /** Reckons the value of the tape's row step by step, each step a NUMBER. */
    private static final class RowValue {
        final Num power = new Num();
        final Num head = new Num();
        final Num shift = new Num();
        final Num tail = new Num();
        final Num divisor = new Num();
        final Num result = new Num();
        final Sum sum = new Sum();

        boolean reckon(Root root, Tape tape, int point, int round) {
            int size = tape.size;
            sum.clear();
            if (!addUpward(root, tape, size - point - 1, size - point)
                    || !addDownward(root, tape, size - point, point - round)
                    || !head.take(sum.u, sum.v, sum.d)) {
                return false;
            }
            // The downward powers have stopped at x^(round - point), the one the ROUND needs.
            return shift.copy(power) && (round == 0 ? result.copy(head) : addRound(root, tape, round));
        }

        private boolean addRound(Root root, Tape tape, int round) {
            sum.clear();
            return addUpward(root, tape, tape.size - 1, round)
                    && tail.take(sum.u, sum.v, sum.d)
                    && root.multiplyByX(power)
                    && divisor.take(power.u - power.d, power.v, power.d)
                    && root.divide(result, tail, divisor)
                    && root.multiply(result, result, shift)
                    && root.join(result, result, head, 1);
        }

        /** Digits from place index on to the left, with x^0, x^1, .. */
        private boolean addUpward(Root root, Tape tape, int index, int many) {
            power.take(1, 0, 1);
            for (int k = 0; k < many; k++) {
                if (k > 0 && !root.multiplyByX(power)) {
                    return false;
                }
                sum.add(tape.at(index - k), power);
            }
            return true;
        }

        /** Digits from place index on to the right, with x^-1, x^-2, .. */
        private boolean addDownward(Root root, Tape tape, int index, int many) {
            power.take(1, 0, 1);
            for (int k = 0; k < many; k++) {
                if (!root.divideByX(power)) {
                    return false;
                }
                sum.add(tape.at(index + k), power);
            }
            return true;
        }
    }

    /** Pairs in the order in which they came, by which a pair that comes again is known. */
    private static final class Trail {
        static final int MOST = 401;
        static final int HEADS = 512;
        static final int HEAD_SHIFT = 32;
        static final long FIRST_FACTOR = 0x9E3779B97F4A7C15L;
        static final long SECOND_FACTOR = 0xC2B2AE3D27D4EB4FL;

        final long[] firsts = new long[MOST];
        final long[] seconds = new long[MOST];
        final int[] links = new int[MOST];
        final int[] heads = new int[HEADS];
        final int[] stamps = new int[HEADS];
        int stamp;
        int size;

        /** A new stamp makes all heads old without a walk over them. */
        void clear() {
            stamp++;
            size = 0;
        }

        /** Where the pair came before; NONE, and it is added, if it is new. */
        int meet(long first, long second) {
            long mixed = first * FIRST_FACTOR + second * SECOND_FACTOR;
            int head = (int) (mixed >>> HEAD_SHIFT) & HEADS - 1;
            int at = stamps[head] == stamp ? heads[head] : NONE;
            for (int looked = 0; looked < MOST && at >= 0 && at < size; looked++) {
                if (firsts[at] == first && seconds[at] == second) {
                    return at;
                }
                at = links[at];
            }
            append(head, first, second);
            return NONE;
        }

        private void append(int head, long first, long second) {
            if (size >= MOST) {
                return;
            }
            firsts[size] = first;
            seconds[size] = second;
            links[size] = stamps[head] == stamp ? heads[head] : NONE;
            heads[head] = size;
            stamps[head] = stamp;
            size++;
        }

        long firstAt(int i) {
            return i >= 0 && i < size ? firsts[i] : 0;
        }

        long secondAt(int i) {
            return i >= 0 && i < size ? seconds[i] : 0;
        }

        int leastOf(int start, int many) {
            int least = start;
            for (int i = start + 1; i < start + many; i++) {
                long gap = firstAt(i) - firstAt(least);
                if (gap < 0 || gap == 0 && secondAt(i) < secondAt(least)) {
                    least = i;
                }
            }
            return least;
        }
    }

    /** A ring with its BASE and its SET. */
    private static final class Ring {
        static final int MOST = 25;
        static final int FEWEST = 2;
        static final int LAST_RULE = 9;
        static final int LAST_PART = 100000;

        int parts;
        int p;
        int q;
        int norm;
        /** The BASE times sideY + sideZ w is the whole number divisor: so it is divided by. */
        long sideY;
        long sideZ;
        long divisor;
        int size;
        final int[] digitY = new int[MOST];
        final int[] digitZ = new int[MOST];
        final int[] keys = new int[MOST];
        final int[] digitOfKey = new int[MOST * MOST];
        long nextY;
        long nextZ;

        Ring() {
            becomeSingle(10);
            for (int i = 0; i < norm; i++) {
                digitY[i] = i;
                keys[i] = keyOf(i, 0);
            }
            keepDigits();
        }

        boolean becomeSingle(int base) {
            if (isBeyond(base, MOST) || !isBeyond(base, FEWEST - 1)) {
                return false;
            }
            parts = 1;
            p = 0;
            q = 0;
            become(1, 0, base);
            return true;
        }

        boolean becomeDouble(int newP, int newQ, int y, int z) {
            if (isBeyond(newP, LAST_RULE) || isBeyond(newQ, LAST_RULE)
                    || isBeyond(y, LAST_PART) || isBeyond(z, LAST_PART)) {
                return false;
            }
            long product = (long) y * y + (long) newP * y * z - (long) newQ * z * z;
            if (isBeyond(product, MOST) || !isBeyond(product, FEWEST - 1)) {
                return false;
            }
            parts = 2;
            p = newP;
            q = newQ;
            become(y + (long) newP * z, -z, product);
            return true;
        }

        private void become(long newSideY, long newSideZ, long newDivisor) {
            sideY = newSideY;
            sideZ = newSideZ;
            divisor = newDivisor;
            norm = (int) Math.abs(newDivisor);
            size = 0;
        }

        /** False, and the SET stays, if the tape is none. */
        boolean takeDigits(Tape tape) {
            if (tape.size != norm * parts || !fillKeys(tape)) {
                return false;
            }
            for (int i = 0; i < norm && i < MOST; i++) {
                digitY[i] = tape.at(i * parts);
                digitZ[i] = zOf(tape, i);
            }
            keepDigits();
            return true;
        }

        private int zOf(Tape tape, int i) {
            return parts == 1 ? 0 : tape.at(i * parts + 1);
        }

        private boolean fillKeys(Tape tape) {
            for (int i = 0; i < norm && i < MOST; i++) {
                keys[i] = keyOf(tape.at(i * parts), zOf(tape, i));
                for (int j = 0; j < i; j++) {
                    if (keys[j] == keys[i]) {
                        return false;
                    }
                }
            }
            return true;
        }

        /** No other key is ever asked for: as many keys as NORM are all that there are. */
        private void keepDigits() {
            for (int i = 0; i < norm && i < MOST; i++) {
                int key = keys[i];
                if (key >= 0 && key < digitOfKey.length) {
                    digitOfKey[key] = i;
                }
            }
            size = norm;
        }

        private long timesSideY(long y, long z) {
            return y * sideY + q * z * sideZ;
        }

        private long timesSideZ(long y, long z) {
            return y * sideZ + z * sideY + p * z * sideZ;
        }

        /** The same for two members just where they differ by a multiple of the BASE. */
        private int keyOf(long y, long z) {
            if (norm <= 0) {
                return 0;
            }
            long first = Math.floorMod(timesSideY(y, z), (long) norm);
            long second = Math.floorMod(timesSideZ(y, z), (long) norm);
            return (int) (first * norm + second);
        }

        /** Puts the member's NEXT into nextY, nextZ, and answers its digit's place in the SET. */
        int step(long y, long z) {
            int key = keyOf(y, z);
            int digit = key >= 0 && key < digitOfKey.length ? digitOfKey[key] : 0;
            if (digit >= 0 && digit < MOST && divisor != 0) {
                long leftY = y - digitY[digit];
                long leftZ = z - digitZ[digit];
                nextY = timesSideY(leftY, leftZ) / divisor;
                nextZ = timesSideZ(leftY, leftZ) / divisor;
            }
            return digit;
        }
    }

    /** The way of one member by NEXT. */
    private static final class Walk {
        static final int ENDS = 0;
        static final int FALLS = 1;
        static final int LOST = 2;
        static final int STEPS = 300;
        static final long FARTHEST = 1000000;

        final int[] places = new int[STEPS];
        int kind = NONE;
        int ahead;
        int length;

        void go(Ring ring, Trail trail, long startY, long startZ) {
            long y = startY;
            long z = startZ;
            trail.clear();
            for (int steps = 0; steps <= STEPS; steps++) {
                if (y == 0 && z == 0) {
                    settle(ENDS, steps, 0);
                    return;
                }
                if (isBeyond(y, FARTHEST) || isBeyond(z, FARTHEST)) {
                    settle(LOST, steps, 0);
                    return;
                }
                int earlier = trail.meet(y, z);
                if (earlier != NONE) {
                    settle(FALLS, earlier, steps - earlier);
                    return;
                }
                if (steps < STEPS) {
                    places[steps] = ring.step(y, z);
                    y = ring.nextY;
                    z = ring.nextZ;
                }
            }
            settle(LOST, STEPS, 0);
        }

        private void settle(int newKind, int newAhead, int newLength) {
            kind = newKind;
            ahead = newAhead;
            length = newLength;
        }

        int at(int k) {
            boolean there = kind != NONE && k >= 0 && k < ahead + length && k < STEPS;
            return there ? places[k] : NONE;
        }
    }

    /** ROUNDS in order by their least members. */
    private static final class RoundList {
        /** Each of 21 times 21 members falls to one ROUND at most. */
        static final int MOST = 441;

        final int[] lengths = new int[MOST];
        final int[] ys = new int[MOST];
        final int[] zs = new int[MOST];
        int size;

        void include(int length, int y, int z) {
            int i = 0;
            while (i < size && isLess(i, y, z)) {
                i++;
            }
            boolean known = i < size && ys[i] == y && zs[i] == z;
            if (known || size >= MOST) {
                return;
            }
            for (int j = size; j > i; j--) {
                lengths[j] = lengths[j - 1];
                ys[j] = ys[j - 1];
                zs[j] = zs[j - 1];
            }
            lengths[i] = length;
            ys[i] = y;
            zs[i] = z;
            size++;
        }

        private boolean isLess(int i, int y, int z) {
            return ys[i] < y || ys[i] == y && zs[i] < z;
        }
    }
}
