import java.math.BigDecimal;
import java.math.MathContext;
import java.util.ArrayList;
import java.util.Arrays;
import java.util.List;

/** The document's terms by their own definitions, over every BASE and over many rings, across promises. */
public final class TermsTest {
    private static final MathContext FINE = new MathContext(250);
    private static final BigDecimal NEAR = BigDecimal.ONE.movePointLeft(120);
    /** What is left is multiplied some 180 times, and what the first rounding left off with it. */
    private static final BigDecimal FAIR = BigDecimal.ONE.movePointLeft(12);
    /** p, q and the parts of B, among them a product below 0 (the NORM has no sign) and rings with divisors of 0. */
    private static final int[][] RINGS = {{0, -1, -1, 1}, {0, -1, 2, 1}, {-1, -1, 2, 0}, {1, -2, 0, 1}, {-1, -5, 1, 2},
        {0, 2, 0, 1}, {3, 4, 1, 2}, {1, 1, 3, -1}, {9, -9, 1, 1}, {0, 7, 1, 1}, {0, 1, 3, 1}};

    interface OfBase { void test(int a, int b); }

    private static void everyBase(OfBase what) {
        for (int a = 1; a <= 9; a++) for (int b = -7; b <= a; b++) if (b > 0 || b < 0 && a + b >= 2) what.test(a, b);
    }

    private static BigDecimal root(int a, int b) {
        return BigDecimal.valueOf(a * a + 4L * b).sqrt(FINE).add(BigDecimal.valueOf(a)).divide(BigDecimal.valueOf(2), FINE);
    }

    private static BigDecimal worth(DigitBench x, int s, BigDecimal root) {
        return BigDecimal.valueOf(x.part(s, 1)).multiply(root).add(BigDecimal.valueOf(x.part(s, 0)))
            .divide(BigDecimal.valueOf(x.part(s, 2)), FINE);
    }

    private static void bases() {
        Edges.edge(4, "such that x is no fraction and the other root lies between -1 and 1", () -> {
            int bases = 0;
            for (int a = -1; a <= 11; a++) for (int b = -10; b <= 11; b++) {
                double square = a * a + 4.0 * b, root = Math.sqrt(Math.max(0, square));
                boolean fine = square > 0 && root != Math.rint(root) && Math.abs((a - root) / 2) < 1 && Math.abs((a + root) / 2) > 1;
                fine &= a >= 1 && a <= 9 && b >= -8 && b <= 9 && b != 0;
                Edges.due("base(" + a + ", " + b + ")", new DigitBench().base(a, b) ? 1 : 0, fine ? 1 : 0);
                if (fine) bases++;
            }
            Edges.due("bases", bases, 73);
        });
        Edges.edge(4, "THE BASE x is the greater root of x x = a x + b", () -> everyBase((a, b) -> {
            DigitBench x = Edges.with(a, b, 0, 1, 1);
            Edges.yes("x x", x.make(1, 0, 0, 2));
            Edges.num(x, 1, b, a, 1);
            Edges.due("floor of x by " + a + ", " + b, x.floor(0), root(a, b).longValue());
            Edges.due("count(2)", x.count(2), root(a, b).longValue());
        }));
        Edges.edge(27, "SLOTS 0 .. 9 have a NUMBER (u + v x) / d or none", () -> {
            DigitBench x = new DigitBench();
            for (int s = -1; s <= 10; s++) {
                boolean isSlot = s >= 0 && s <= 9;
                Edges.due("compare(" + s + ", " + s + ")", x.compare(s, s), 2);
                Edges.due("number(" + s + ", 1, 0, 1)", x.number(s, 1, 0, 1) ? 1 : 0, isSlot ? 1 : 0);
                Edges.due("compare(" + s + ", " + s + ")", x.compare(s, s), isSlot ? 0 : 2);
                Edges.due("count(3)", x.count(3), Math.min(s + 1, 10));
            }
        });
        Edges.edge(5, "SLOT s has (u + v x) / d: true", () -> {
            DigitBench x = new DigitBench();
            for (int s = 0; s < 10; s++) Edges.yes("number(" + s + ", ..)", x.number(s, s, -s - 1, 7));
            for (int s = 0; s < 10; s++) if (s != 6) Edges.num(x, s, s, -s - 1, 7);
            Edges.num(x, 6, 6, -7, 7);
            Edges.due("count(3)", x.count(3), 10);
        });
        Edges.edge(6, "NUMBERS of SLOTS", () -> everyBase((a, b) -> {
            // (i less j) times (i and j) is i i less j j; (i by j) times j is i
            DigitBench x = Edges.with(a, b, 3, -2, 5);
            Edges.yes("number", x.number(1, -1, 1, 3));
            for (int what = 0; what < 4; what++) Edges.yes("make(.., " + what + ")", x.make(2 + what, 0, 1, what));
            Edges.yes("make", x.make(6, 3, 2, 2) && x.make(7, 0, 0, 2) && x.make(8, 1, 1, 2) && x.make(7, 7, 8, 1));
            Edges.due("compare", x.compare(6, 7), 0);
            Edges.yes("make", x.make(6, 5, 1, 2));
            Edges.num(x, 6, 3, -2, 5);
        }));
    }

    /** All that is left behind each place lies from 0 on below the place's own power: this is to be greedy. */
    private static void greedy(DigitBench x, BigDecimal root, String name) {
        BigDecimal left = worth(x, 0, root);
        BigDecimal power = root.pow(x.told(0), FINE);
        Edges.yes(name + ": the greatest power", power.compareTo(left) <= 0 || x.told(0) == 0);
        Edges.yes(name + ": the next power", power.multiply(root, FINE).subtract(left).compareTo(NEAR) > 0);
        for (int k = x.told(0); k >= -40; k--) {
            left = left.subtract(power.multiply(BigDecimal.valueOf(x.digit(k))), FINE);
            Edges.yes(name + ": not below 0 at " + k, left.add(NEAR).signum() > 0);
            Edges.yes(name + ": below x^" + k, power.subtract(left).compareTo(NEAR) > 0);
            power = power.divide(root, FINE);
        }
    }

    /** What is left behind place ahead + length is what it was behind place ahead, and no two sooner are alike. */
    private static void comesBack(DigitBench x, BigDecimal root) {
        int ahead = x.told(1), length = x.told(2);
        BigDecimal[] left = new BigDecimal[ahead + 3 * length + 1];
        left[0] = worth(x, 0, root);
        for (int k = x.told(0); k >= 0; k--) left[0] = left[0].subtract(root.pow(k).multiply(BigDecimal.valueOf(x.digit(k))), FINE);
        for (int i = 1; i < left.length; i++) left[i] = left[i - 1].multiply(root, FINE).subtract(BigDecimal.valueOf(x.digit(-i)));
        for (int i = 0; i < left.length; i++) {
            for (int j = 0; j < i; j++) {
                boolean alike = left[i].subtract(left[j]).abs().compareTo(FAIR) < 0;
                Edges.due("left alike behind " + j + " and " + i, alike ? 1 : 0, j >= ahead && (i - j) % length == 0 ? 1 : 0);
            }
        }
    }

    /** The digits told, as a row from x^0 (or higher) down to x^-last. */
    private static int[] rowTold(DigitBench x, int last) {
        int[] row = new int[x.told(0) + 1 + last];
        for (int i = 0; i < row.length; i++) row[i] = x.digit(x.told(0) - i);
        return row;
    }

    private static void digits() {
        int[][] numbers = {{0, 0, 1}, {1, 0, 1}, {0, 1, 1}, {7, 0, 1}, {100, 0, 1}, {1, 0, 2}, {2, 0, 3}, {-1, 1, 1}, {5, 3, 4},
            {-65, 70, 6}, {65536, 65536, 1}, {1, 0, 999}, {65535, 0, 7}};
        String greedily = "down to x^0, then behind the point x^-1, x^-2, .. : "
            + "the greatest whole number of times that the power goes into what is left, which goes off";
        Edges.edge(10, greedily, () -> everyBase((a, b) -> {
            for (int[] n : numbers) {
                DigitBench x = Edges.with(a, b, n[0], n[1], n[2]);
                Edges.yes("digits(0)", x.digits(0) >= 0);
                greedy(x, root(a, b), Arrays.toString(n) + " by " + a + ", " + b);
            }
        }));
        Edges.edge(10, "The DIGITS of NUMBER i are told: 0 they END, 1 they COME BACK", () -> {
            int[] brought = new int[2];
            everyBase((a, b) -> {
                for (int[] n : numbers) {
                    DigitBench x = Edges.with(a, b, n[0], n[1], n[2]);
                    int kind = x.digits(0), point = x.told(1) + x.told(2);
                    if (kind > 1 || point > 60) continue;
                    int[] row = rowTold(x, point);
                    Edges.tape(x, row);
                    Edges.none("allowed() of " + Arrays.toString(row), x.allowed());
                    Edges.tape(x, row);
                    // refused only where a step is no NUMBER
                    if (!x.value(1, point, x.told(2))) continue;
                    Edges.due("compare(0, 1) of " + Arrays.toString(row) + " by " + a + ", " + b, x.compare(0, 1), 0);
                    brought[kind]++;
                }
            });
            Edges.yes("some END, and are worth the NUMBER", brought[0] > 200);
            Edges.yes("some COME BACK, and are worth the NUMBER", brought[1] > 100);
        });
        String back = "they COME BACK, where what is left behind the point, times the power turned over, "
            + "is what it was behind an earlier place (behind the point, or at it): the ROUND, as often as one likes";
        Edges.edge(10, back, () -> {
            int[] rounds = new int[1];
            everyBase((a, b) -> {
                for (int[] n : numbers) {
                    DigitBench x = Edges.with(a, b, n[0], n[1], n[2]);
                    if (x.digits(0) == 1 && x.told(1) + x.told(2) <= 60) { comesBack(x, root(a, b)); rounds[0]++; }
                }
            });
            Edges.yes("some COME BACK", rounds[0] > 200);
        });
        Edges.edge(11, "Of the digits told", () -> {
            DigitBench x = Edges.with(1, 1, 1, 0, 2);
            Edges.told(x, 1, 0, 0, 3);
            Edges.yes("number", x.number(0, 4, 0, 1));
            Edges.due("told(2)", x.told(2), 3);
            Edges.told(x, 0, 2, 2, 0);
        });
        Edges.edge(12, "The digit told at x^k", () -> {
            // 1 / 2 = 0.(010); another NUMBER in the SLOT leaves what was told
            DigitBench x = Edges.with(1, 1, 1, 0, 2);
            Edges.told(x, 1, 0, 0, 3);
            Edges.yes("number", x.number(0, 4, 0, 1));
            for (int k = -1; k > -9; k--) Edges.due("digit(" + k + ")", x.digit(k), k % 3 == -2 ? 1 : 0);
        });
    }

    /** The BAR from ONE's digits, as the terms tell it. */
    private static int[] bar(DigitBench x, int b, int places) {
        int[] bar = new int[places];
        for (int i = 0; i < places; i++) bar[i] = b < 0 ? x.one(i + 1) : i % 2 == 0 ? x.one(1) : x.one(2) - 1;
        return bar;
    }

    private static int firstNot(int[] row, int[] bar) {
        for (int i = 0; i < row.length; i++) {
            int n = row.length - i;
            if (Arrays.compare(row, i, row.length, bar, 0, n) > 0) return i;
        }
        return Edges.NONE;
    }

    private static void rows() {
        Edges.edge(15, "as of a number behind the point, but what is left at first is 1", () -> everyBase((a, b) -> {
            DigitBench x = Edges.at(a, b);
            BigDecimal root = root(a, b), left = BigDecimal.ONE;
            for (int k = 1; k <= 40; k++) {
                left = left.multiply(root, FINE).subtract(BigDecimal.valueOf(x.one(k)));
                Edges.yes("one(" + k + ") by " + a + ", " + b, left.add(NEAR).signum() > 0 && left.compareTo(BigDecimal.ONE.add(NEAR)) < 0);
            }
            Edges.tape(x, x.one(1), x.one(2));
            Edges.yes("value(0, 2, ..) of ONE's digits", x.value(0, 2, b > 0 ? 0 : 1));
            Edges.num(x, 0, 1, 0, 1);
            Edges.tape(x, bar(x, b, 2));
            Edges.yes("value(0, 2, ..) of the BAR", x.value(0, 2, b > 0 ? 2 : 1));
            Edges.num(x, 0, 1, 0, 1);
        }));
        Edges.edge(15, "b above 0: a, b (they END); below: a - 1, then a + b - 1 again and again", () -> everyBase((a, b) -> {
            DigitBench x = Edges.at(a, b);
            for (int k = 1; k <= 60; k++) {
                int due = b > 0 ? k == 1 ? a : k == 2 ? b : 0 : k == 1 ? a - 1 : a + b - 1;
                Edges.due("one(" + k + ") by " + a + ", " + b, x.one(k), due);
            }
        }));
        String theBar = "The BAR: these; if they END, with the last one less by one, and all this again and again";
        Edges.edge(14, theBar, () -> everyBase((a, b) -> {
            // the BAR's first places are ALLOWED; with the last one more by one they are not
            for (int n = 1; n <= 20; n++) {
                DigitBench x = Edges.at(a, b);
                int[] row = bar(x, b, n);
                Edges.tape(x, row);
                Edges.none("allowed() of " + Arrays.toString(row) + " by " + a + ", " + b, x.allowed());
                row[n - 1]++;
                Edges.tape(x, row);
                Edges.due("allowed() of " + Arrays.toString(row) + " by " + a + ", " + b, x.allowed(), 0);
            }
        }));
        String allowed = "A row of digits is ALLOWED, if each part of it, from any place on, comes ahead of the BAR "
            + "(at the first place in which they are unlike it is less, or there is none as far as it goes)";
        Edges.edge(14, allowed, () -> everyBase((a, b) -> {
            int high = Edges.at(a, b).one(1) + 1;
            long rows = 0;
            for (int i = 0; i <= high; i++) {
                DigitBench x = Edges.at(a, b);
                int[] bar = bar(x, b, 3);
                for (int j = 0; j <= high; j++) for (int k = 0; k <= high; k++) {
                    if (x.feed(i << 24 | j << 16 | k << 8, 0, 0, 0, 0) != 20 || !x.end(3)) Edges.yes("feed, end", false);
                    int got = x.allowed(), due = firstNot(new int[] {i, j, k}, bar);
                    Edges.due("allowed() of " + i + " " + j + " " + k + " by " + a + ", " + b, got, due);
                    if (got == Edges.NONE) rows++;
                }
            }
            Edges.due("rows(3) by " + a + ", " + b, Edges.at(a, b).rows(3), rows);
        }));
        Edges.edge(13, "the value of the row, whatever digits it has", () -> everyBase((a, b) -> {
            int[] row = {-3, 100, -128, 127, 5};
            BigDecimal root = root(a, b), due = BigDecimal.ZERO;
            for (int i = 0; i < 5; i++) due = due.add(power(root, 2 - i).multiply(BigDecimal.valueOf(row[i])));
            DigitBench x = Edges.at(a, b);
            Edges.tape(x, row);
            Edges.yes("value(0, 2, 0) by " + a + ", " + b, x.value(0, 2, 0));
            Edges.yes("its worth by " + a + ", " + b, worth(x, 0, root).subtract(due).abs().compareTo(NEAR) < 0);
            // -3 100 -128 . (127 5)
            due = due.add(power(root, -2).multiply(BigDecimal.valueOf(127).multiply(root).add(BigDecimal.valueOf(5)))
                .divide(root.multiply(root).subtract(BigDecimal.ONE), FINE));
            Edges.tape(x, row);
            if (!x.value(0, 2, 2)) return;
            Edges.yes("its worth by " + a + ", " + b, worth(x, 0, root).subtract(due).abs().compareTo(NEAR) < 0);
        }));
        Edges.edge(13, "else it is refused: true", () -> {
            DigitBench x = Edges.with(1, 1, 5, 6, 7);
            Edges.tape(x, 2, 0, 1);
            Edges.yes("value(0, 0, 0)", x.value(0, 0, 0));
            Edges.num(x, 0, 3, 2, 1);
        });
    }

    private static BigDecimal power(BigDecimal root, int k) {
        return k >= 0 ? root.pow(k) : BigDecimal.ONE.divide(root.pow(-k), FINE);
    }

    private static void wholes() {
        Edges.edge(17, "WHOLE ones are NUMBERS from 0 on whose DIGITS END at the point", () -> everyBase((a, b) -> {
            DigitBench x = Edges.at(a, b);
            int last = 60;
            for (int n = 0; n <= last; n++) {
                Edges.yes("whole(" + n % 2 + ", " + n + ")", x.whole(n % 2, n));
                Edges.due("digits of WHOLE one " + n, x.digits(n % 2), 0);
                Edges.due("told(1) of WHOLE one " + n, x.told(1), 0);
                if (n > 0) Edges.due("compare of WHOLE ones " + (n - 1) + ", " + n, x.compare(n % 2, 1 - n % 2), 1);
            }
            Edges.due("WHOLE ones below number " + last, wholesBelow(a, b, x), last);
        }));
        Edges.edge(18, "Which WHOLE one NUMBER i is", () -> everyBase((a, b) -> {
            // as many are below x^n as there are ALLOWED rows of n digits
            DigitBench x = Edges.with(a, b, 1, 0, 1);
            Edges.yes("number(1, 0, 1, 1)", x.number(1, 0, 1, 1));
            for (int n = 0; n <= 16 && x.rows(n) <= 50000; n++) {
                Edges.due("rank of x^" + n + " by " + a + ", " + b, x.rank(0), x.rows(n));
                Edges.yes("make", x.make(0, 0, 1, 2));
            }
        }));
    }

    /** Looks through all u + v x that can be below WHOLE one number 60, which SLOT 0 has. */
    private static int wholesBelow(int a, int b, DigitBench x) {
        int u = x.part(0, 0), v = x.part(0, 1), found = 0;
        BigDecimal root = root(a, b), worth = worth(x, 0, root);
        for (int i = -70; i <= 70; i++) for (int j = -70; j <= 70; j++) {
            BigDecimal other = BigDecimal.valueOf(j).multiply(root).add(BigDecimal.valueOf(i));
            if (other.signum() < 0 || other.subtract(worth).signum() >= 0) continue;
            DigitBench y = Edges.with(a, b, i, j, 1);
            Edges.yes("number(1, ..)", y.number(1, u, v, 1));
            if (y.compare(0, 1) < 0 && y.digits(0) == 0 && y.told(1) == 0) found++;
        }
        return found;
    }

    private static long[] times(int[] ring, long[] m, long[] n) {
        return new long[] {m[0] * n[0] + ring[1] * m[1] * n[1], m[0] * n[1] + m[1] * n[0] + ring[0] * m[1] * n[1]};
    }

    private static boolean isMultiple(int[] ring, long y, long z) {
        // y + z w = B (s + t w) has whole s, t: tried out, for they are small
        for (int s = -80; s <= 80; s++) for (int t = -80; t <= 80; t++) {
            long[] n = times(ring, new long[] {ring[2], ring[3]}, new long[] {s, t});
            if (n[0] == y && n[1] == z) return true;
        }
        return false;
    }

    /** NORM, with a sign. */
    private static int product(int[] ring) {
        return ring[2] * ring[2] + ring[0] * ring[2] * ring[3] - ring[1] * ring[3] * ring[3];
    }

    /** NORM digits near 0, found one by one. */
    private static int[] setOf(int[] ring) {
        int norm = Math.abs(product(ring));
        List<int[]> found = new ArrayList<>();
        for (int far = 0; far < 8; far++) for (int y = -far; y <= far; y++) for (int z = -far; z <= far; z++) {
            boolean fresh = Math.max(Math.abs(y), Math.abs(z)) == far;
            for (int[] d : found) fresh = fresh && !isMultiple(ring, y - d[0], z - d[1]);
            if (fresh) found.add(new int[] {y, z});
        }
        Edges.due("unlike rests by " + Arrays.toString(ring), found.size(), norm);
        int[] set = new int[2 * norm];
        for (int i = 0; i < norm && i < found.size(); i++) System.arraycopy(found.get(i), 0, set, 2 * i, 2);
        return set;
    }

    /** The first digits of the latest write(), asked for once, for an object has 512 calls. */
    private static int[] places(DigitBench x, int many) {
        int[] places = new int[many];
        int size = x.count(6);
        for (int k = 0; k < many; k++) {
            places[k] = x.place(k);
            Edges.yes("place(" + k + ") is in the SET", places[k] >= 0 && places[k] < size);
        }
        return places;
    }

    /** The sum of these digits and B to the next power times the member that comes then. */
    private static long[] summedUp(int[] places, int[] ring, int[] set, long[] last) {
        long[] sum = last;
        for (int k = places.length - 1; k >= 0; k--) {
            sum = times(ring, new long[] {ring[2], ring[3]}, sum);
            sum = new long[] {sum[0] + set[2 * places[k]], sum[1] + set[2 * places[k] + 1]};
        }
        return sum;
    }

    private static void rings() {
        Edges.edge(20, "A SET has NORM digits, unlike two of which never differ by a multiple of B", () -> {
            for (int[] ring : RINGS) {
                int[] set = setOf(ring);
                int norm = set.length / 2;
                DigitBench x = ringWithSet(ring, set);
                Edges.due("count(5)", x.count(5), norm);
                Edges.due("count(6)", x.count(6), norm);
                // the last one now differs from the first by B, by B w, by -B
                for (long[] by : new long[][] {{1, 0}, {0, 1}, {-1, 0}}) {
                    int[] other = set.clone();
                    long[] more = times(ring, new long[] {ring[2], ring[3]}, by);
                    other[2 * norm - 2] = (int) (set[0] + more[0]);
                    other[2 * norm - 1] = (int) (set[1] + more[1]);
                    Edges.tape(x, other);
                    Edges.no("set() of " + Arrays.toString(other), x.set());
                    // one digit moved by a multiple of B is as good
                    other = set.clone();
                    other[0] += (int) more[0];
                    other[1] += (int) more[1];
                    Edges.tape(x, other);
                    Edges.yes("set() of " + Arrays.toString(other), x.set());
                }
            }
        });
        Edges.edge(21, "Each member m of the ring is then in one way a digit and B times another member, its NEXT", () -> {
            int[] kinds = new int[3];
            for (int[] ring : RINGS) isSummedUp(ring, kinds);
            Edges.yes("some END", kinds[0] > 100);
            Edges.yes("some fall to a ROUND", kinds[1] > 100);
        });
        Edges.edge(21, "the first one (that of B^0) on: 0 it ENDS, 1 it falls to a ROUND, 2 it is LOST", () -> {
            DigitBench x = Edges.ringOfOne(10, 0, 1, 2, 3, 4, 5, 6, 7, 8, 9);
            Edges.wrote(x, 409, 0, 0, 3, 0);
            int[] row = {9, 0, 4};
            for (int k = 0; k < 3; k++) Edges.due("place(" + k + ")", x.place(k), row[k]);
            // -409 = 1 + 10 (-41), -41 = 9 + 10 (-5), -5 = 5 + 10 (-1), -1 = 9 + 10 (-1)
            Edges.wrote(x, -409, 0, 1, 3, 1);
            int[] below = {1, 9, 5, 9};
            for (int k = 0; k < 4; k++) Edges.due("place(" + k + ")", x.place(k), below[k]);
            Edges.none("place(4)", x.place(4));
        });
        Edges.edge(21, "m ENDS, if one comes from it by NEXT to 0 (0 itself does so at once)", () -> {
            // by the digits 1 and 2 of B = 2: 0 = 2 + 2 (-1), but it ENDS; 4 = 2 + 2 (1), 1 = 1 + 2 (0)
            DigitBench x = Edges.ringOfOne(2, 1, 2);
            Edges.wrote(x, 0, 0, 0, 0, 0);
            Edges.wrote(x, 1, 0, 0, 1, 0);
            Edges.wrote(x, 4, 0, 0, 2, 0);
            Edges.wrote(x, -1, 0, 1, 0, 1);
        });
        Edges.edge(23, "Digit k of it (the place in the SET", () -> {
            DigitBench x = Edges.ringOfOne(3, 1, 0, -1);
            // 5 = -1 + 3 (-1 + 3)
            Edges.wrote(x, 5, 0, 0, 3, 0);
            int[] row = {2, 2, 0};
            for (int k = 0; k < 3; k++) Edges.due("place(" + k + ")", x.place(k), row[k]);
        });
        Edges.edge(19, "A BASE B of it; NORM: of one part B without its sign", () -> {
            DigitBench x = new DigitBench();
            for (int base = -30; base <= 30; base++) {
                boolean fine = Math.abs(base) >= 2 && Math.abs(base) <= 25;
                Edges.due("ring(true, .., " + base + ", ..)", x.ring(true, 0, 0, base, 0) ? 1 : 0, fine ? 1 : 0);
                if (fine) Edges.due("count(5)", x.count(5), Math.abs(base));
            }
        });
        Edges.edge(19, "or of two parts by p, q, B = y + z w", () -> {
            for (int[] ring : RINGS) {
                DigitBench x = new DigitBench();
                Edges.yes("ring", x.ring(false, ring[0], ring[1], ring[2], ring[3]));
                Edges.due("count(7)", x.count(7), 2);
                Edges.due("count(6)", x.count(6), 0);
            }
        });
        Edges.edge(24, "how many ROUNDS are met", () -> {
            for (int[] ring : RINGS) roundsAreMet(ring, 3);
        });
    }

    private static DigitBench ringWithSet(int[] ring, int[] set) {
        return Edges.ringOfTwo(ring[0], ring[1], ring[2], ring[3], set);
    }

    /** What the digits told make, with the ROUND once through leading back to its first member. */
    private static void isSummedUp(int[] ring, int[] kinds) {
        int[] set = setOf(ring);
        for (int y = -6; y <= 6; y += 3) for (int z = -7; z <= 7; z += 2) {
            DigitBench x = ringWithSet(ring, set);
            String name = "write(" + y + ", " + z + ") by " + Arrays.toString(ring);
            int kind = x.write(y, z), ahead = x.written(0), length = x.written(1);
            kinds[kind]++;
            if (kind == 2) continue;
            int[] places = places(x, ahead + length);
            long[][] met = walk(places, ring, set, y, z);
            long[] first = met[ahead], last = met[ahead + length];
            Edges.yes(name + (kind == 0 ? " comes to 0" : " comes back"), Arrays.equals(last, kind == 0 ? new long[2] : first));
            for (int k = 0; k < ahead + length; k++) {
                Edges.yes(name + " comes not sooner to 0", met[k][0] != 0 || met[k][1] != 0);
                for (int i = 0; i < k; i++) Edges.yes(name + " comes back not sooner", !Arrays.equals(met[k], met[i]));
            }
            long[] sum = summedUp(places, ring, set, last);
            Edges.yes(name + " makes it", sum[0] == y && sum[1] == z);
        }
    }

    /** The members that one comes to by NEXT with these digits, the first one ahead. */
    private static long[][] walk(int[] places, int[] ring, int[] set, long y, long z) {
        long[][] met = new long[places.length + 1][];
        met[0] = new long[] {y, z};
        long norm = product(ring);
        long[] side = {ring[2] + (long) ring[0] * ring[3], -ring[3]};
        for (int k = 0; k < places.length; k++) {
            long[] n = times(ring, new long[] {met[k][0] - set[2 * places[k]], met[k][1] - set[2 * places[k] + 1]}, side);
            Edges.yes("digit " + k + " leaves a multiple of B", n[0] % norm == 0 && n[1] % norm == 0);
            met[k + 1] = new long[] {n[0] / norm, n[1] / norm};
        }
        return met;
    }

    /** Members of each ROUND told are written: they are in it at once, and it is as long as told. */
    private static void roundsAreMet(int[] ring, int r) {
        int[] set = setOf(ring);
        DigitBench x = ringWithSet(ring, set);
        int met = x.rounds(r), ends = 0, falls = 0, lost = 0;
        DigitBench y = ringWithSet(ring, set);
        for (int i = -r; i <= r; i++) for (int j = -r; j <= r; j++) {
            int kind = y.write(i, j);
            if (kind == 0) ends++;
            if (kind == 1) falls++;
            if (kind == 2) lost++;
        }
        String name = " by " + Arrays.toString(ring);
        if (lost > 0) {
            Edges.none("rounds(" + r + ")" + name, met);
            Edges.none("ending(" + r + ")" + name, x.ending(r));
            return;
        }
        Edges.due("ending(" + r + ")" + name, x.ending(r), ends);
        Edges.yes("rounds(" + r + ")" + name, met >= 0 && met <= falls && met > 0 == falls > 0);
        for (int k = 0; k < met; k++) Edges.wrote(x, x.round(k, 1), x.round(k, 2), 1, 0, x.round(k, 0));
        for (int k = 1; k < met; k++) {
            int gap = x.round(k, 1) - x.round(k - 1, 1);
            Edges.yes("ROUND " + k + " is behind the one ahead" + name, gap > 0 || gap == 0 && x.round(k, 2) > x.round(k - 1, 2));
        }
    }

    public static void main(String[] args) {
        bases();
        digits();
        rows();
        wholes();
        rings();
        Edges.close();
    }
}
