import java.util.Arrays;

/** Boundary cases of promises 13 to 18: rows of digits, ONE's digits, WHOLE ones. */
public final class EdgesOfRowsTest {
    private static final int NONE = Edges.NONE;
    private static final int LEAST = Edges.LEAST;
    private static final int MOST = Edges.MOST;
    private static final int[] NO_SLOTS = {-1, 10, LEAST, MOST};

    /** zeros, then these. */
    private static int[] behind(int zeros, int... last) {
        int[] row = new int[zeros + last.length];
        System.arraycopy(last, 0, row, zeros, last.length);
        return row;
    }

    /** A row with 1 at the powers told, the highest of which is its first place. */
    private static int[] ones(int... powers) {
        int[] row = new int[powers[0] + 1];
        for (int k : powers) row[powers[0] - k] = 1;
        return row;
    }

    private static int[] join(int[] first, int... second) {
        int[] row = Arrays.copyOf(first, first.length + second.length);
        System.arraycopy(second, 0, row, first.length, second.length);
        return row;
    }

    /** By the BASE told the row has this value. */
    private static void isWorth(DigitBench x, int[] row, int point, int round, int u, int v, int d) {
        Edges.tape(x, row);
        Edges.yes("value(3, " + point + ", " + round + ") of " + Arrays.toString(row), x.value(3, point, round));
        Edges.num(x, 3, u, v, d);
        Edges.due("count(4)", x.count(4), 0);
    }

    /** The row is refused, whether the SLOT has a NUMBER or none; the tape is empty all the same. */
    private static void isRefused(int a, int b, int[] row, int point, int round) {
        DigitBench x = Edges.with(a, b, 5, 6, 7);
        for (int s = 0; s < 2; s++) {
            Edges.tape(x, row);
            Edges.no("value(" + s + ", " + point + ", " + round + ") of " + Arrays.toString(row), x.value(s, point, round));
            Edges.due("count(4)", x.count(4), 0);
        }
        Edges.num(x, 0, 5, 6, 7);
        Edges.empty(x, 1);
        Edges.due("count(3)", x.count(3), 1);
    }

    private static void value() {
        Edges.edge(13, "the tape's bytes (with their signs; empty then) are digits, the highest first", () -> {
            isWorth(Edges.at(1, 1), new int[] {-128, 127}, 0, 0, 127, -128, 1);
            isWorth(Edges.at(1, 1), new int[] {127, -128}, 0, 0, -128, 127, 1);
            isWorth(Edges.at(1, 1), new int[0], 0, 0, 0, 0, 1);
        });
        Edges.edge(13, "point of them behind the point (0 to how many there are)", () -> {
            int[] row = {1, 2};
            isWorth(Edges.at(1, 1), row, 0, 0, 2, 1, 1);
            // 2 / x = 2 x - 2, 1 / x^2 = 2 - x
            isWorth(Edges.at(1, 1), row, 1, 0, -1, 2, 1);
            isWorth(Edges.at(1, 1), row, 2, 0, 3, -1, 1);
            for (int point : new int[] {-1, 3, LEAST, MOST}) isRefused(1, 1, row, point, 0);
            isRefused(1, 1, new int[0], 1, 0);
            isRefused(1, 1, new int[0], -1, 0);
            isRefused(1, 1, new int[0], -1, -1);
            isRefused(1, 1, new int[200], 201, 0);
        });
        Edges.edge(13, "the last round of them (0 to point) again and again", () -> {
            int[] row = {1, 0};
            isWorth(Edges.at(1, 1), row, 2, 0, -1, 1, 1);
            // 0.1(0), 0.(10)
            isWorth(Edges.at(1, 1), row, 2, 1, -1, 1, 1);
            isWorth(Edges.at(1, 1), row, 2, 2, 1, 0, 1);
            // ONE's digits by x x = 3 x - 1: 0.2(1)
            isWorth(Edges.at(3, -1), new int[] {2, 1}, 2, 1, 1, 0, 1);
            for (int round : new int[] {-1, 3, LEAST, MOST}) isRefused(1, 1, row, 2, round);
            isRefused(1, 1, row, 1, 2);
            isRefused(1, 1, row, 0, 1);
            isRefused(1, 1, row, MOST, MOST);
            isRefused(1, 1, new int[0], 0, 1);
        });
        Edges.edge(13, "or point, round are not as told", () -> {
            DigitBench x = Edges.used();
            x.end(0);
            Edges.refused(x, "value(0, 1, 0) of an empty tape", b -> b.value(0, 1, 0));
            Edges.refused(x, "value(0, 0, 1) of an empty tape", b -> b.value(0, 0, 1));
        });
        Edges.edge(13, "false, if it is refused", () -> {
            for (int s : NO_SLOTS) {
                DigitBench x = Edges.used();
                Edges.no("value(" + s + ", 0, 0)", x.value(s, 0, 0));
                Edges.due("count(4)", x.count(4), 0);
                Edges.due("count(3)", x.count(3), 3);
                Edges.refused(x, "value(" + s + ", 0, 0) of an empty tape", b -> b.value(s, 0, 0));
            }
            for (int s = 0; s < 10; s += 9) {
                DigitBench x = new DigitBench();
                Edges.tape(x, 1);
                Edges.yes("value(" + s + ", 0, 0)", x.value(s, 0, 0));
                Edges.num(x, s, 1, 0, 1);
            }
        });
    }

    private static void valueOfPowers() {
        Edges.edge(13, "the sum of digits times powers (of all places, also with a digit 0)", () -> {
            // x^24 = 28657 + 46368 x is a NUMBER, x^25 = 46368 + 75025 x is none
            isWorth(Edges.at(1, 1), behind(24, 1), 0, 0, 1, 0, 1);
            isRefused(1, 1, behind(25, 1), 0, 0);
            isRefused(1, 1, new int[200], 0, 0);
            // x^-23 = 28657 x - 46368 is one, x^-24 = 75025 - 46368 x is none
            isWorth(Edges.at(1, 1), join(new int[] {1}, new int[23]), 23, 0, 1, 0, 1);
            isRefused(1, 1, join(new int[] {1}, new int[24]), 24, 0);
            isRefused(1, 1, new int[200], 200, 0);
            // the divisor of x^-6 is 729, that of x^-7 is 6561
            isWorth(Edges.at(9, 9), new int[6], 6, 0, 0, 0, 1);
            isRefused(9, 9, new int[7], 7, 0);
            // 1 / x = (x - 9) / 9 and 1 / x^2 = (10 - x) / 9: the two are 1/9
            isWorth(Edges.at(9, 9), new int[] {1, 1}, 2, 0, 1, 0, 9);
            isWorth(Edges.at(9, 9), new int[] {2, 1}, 2, 0, -8, 1, 9);
            isWorth(Edges.at(9, 9), new int[] {5, 1, 1}, 2, 0, 46, 0, 9);
            // b below 0: 1 / x = (9 - x) / 7, x^-3 has the divisor 343, x^-4 has 2401
            isWorth(Edges.at(9, -7), new int[] {1}, 1, 0, 9, -1, 7);
            isWorth(Edges.at(9, -7), new int[3], 3, 0, 0, 0, 1);
            isRefused(9, -7, new int[4], 4, 0);
            // ahead of a ROUND: 0.0..0(0) with 23 and 24 places
            isWorth(Edges.at(1, 1), new int[24], 24, 1, 0, 0, 1);
            isRefused(1, 1, new int[25], 25, 1);
        });
        Edges.edge(13, "(what they are summed up of need not)", () -> {
            // 2 x^24 - 2 x^23 - x^22 = x^22, where 2 x^24 is none
            isWorth(Edges.at(1, 1), join(new int[] {2, -2, -1}, new int[22]), 0, 0, 10946, 17711, 1);
            isRefused(1, 1, behind(0, join(new int[] {2}, new int[24])), 0, 0);
            // 127 x^24 - 127 x^23 - 127 x^22 = 0
            isWorth(Edges.at(1, 1), join(new int[] {127, -127, -127}, new int[22]), 0, 0, 0, 0, 1);
            isWorth(Edges.at(1, 1), join(new int[20], 127, -127, -127), 23, 0, 0, 0, 1);
        });
        Edges.edge(13, "each power (x^r, too), x^r - 1, and each of these must be a NUMBER", () -> {
            // H has no places; the ROUND's powers go to x^24 while x^25 is none
            isWorth(Edges.at(1, 1), new int[24], 24, 24, 0, 0, 1);
            isRefused(1, 1, new int[25], 25, 25);
            isRefused(1, 1, new int[26], 26, 26);
            isRefused(1, 1, new int[200], 200, 200);
        });
        Edges.edge(13, "of those ahead of the ROUND H", () -> {
            // v of H is 65537, 65536, 65535 as the last power is, the ROUND 0.0(-1 0) takes x - 1 off
            isRefused(1, 1, join(ones(24, 22, 16, 14, 11, 5), 0, -1, 0), 3, 2);
            DigitBench x = Edges.at(1, 1);
            int[] most = ones(24, 22, 16, 14, 11, 4, 2);
            isWorth(x, join(most, 0, -1, 0), 3, 2, 28657 + 10946 + 610 + 233 + 55 + 2 + 1 + 1, 65535, 1);
            isWorth(x, most, 0, 0, 28657 + 10946 + 610 + 233 + 55 + 2 + 1, 65536, 1);
            isRefused(1, 1, ones(24, 22, 16, 14, 11, 5), 0, 0);
        });
    }

    private static void valueOfRounds() {
        Edges.edge(13, "with a ROUND of r digits, R, that of these with the powers r - 1 .. 0", () -> {
            // R = x^24 - 1 goes into itself once, but twice as much is none
            isWorth(Edges.at(1, 1), join(new int[] {1, 1}, behind(21, -1)), 24, 24, 1, 0, 1);
            isRefused(1, 1, join(new int[] {2, 2}, behind(21, -2)), 24, 24);
        });
        Edges.edge(13, "then R by x^r - 1", () -> {
            // R is a NUMBER, and R by x^13 - 1 is (1091 + 65484 x) / 521, with 123 for 122 (948 + 65574 x) / 521;
            // by x these would be (64393 + 1091 x) / 521 and (64626 + 948 x) / 521
            int[] high = new int[10];
            Arrays.fill(high, 127);
            isWorth(Edges.at(1, 1), join(new int[1], join(high, 122, 127, 126)), 14, 13, 64393, 1091, 521);
            isRefused(1, 1, join(new int[1], join(high, 123, 127, 126)), 14, 13);
            // 1 by x^15 - 1 has the divisor 682, 1 by x^17 - 1 has 3571
            isWorth(Edges.at(1, 1), behind(14, 1), 15, 15, -493, 305, 682);
            isRefused(1, 1, behind(16, 1), 17, 17);
        });
        Edges.edge(13, "this times x^(r - point)", () -> {
            // (c) = c x by x - 1: behind 23 places c x^-22; 3 x^-22 is none, though -x^-22 in H brings it back
            isWorth(Edges.at(1, 1), join(new int[23], 2), 24, 1, 57314, -35422, 1);
            isWorth(Edges.at(1, 1), join(behind(21, -1, 0), 2), 24, 1, 28657, -17711, 1);
            isRefused(1, 1, join(behind(21, -1, 0), 3), 24, 1);
        });
        Edges.edge(13, "that and H together", () -> {
            // the ROUND 0.0(10) adds x - 1
            int[] most = ones(24, 22, 16, 14, 11, 4, 2);
            int[] less = ones(24, 22, 16, 14, 11, 4);
            isRefused(1, 1, join(most, 0, 1, 0), 3, 2);
            isWorth(Edges.at(1, 1), join(less, 0, 1, 0), 3, 2, 28657 + 10946 + 610 + 233 + 55 + 2 - 1, 65536, 1);
        });
    }

    /** What allowed() answers by the BASE told; the tape is empty then. */
    private static void allows(int a, int b, int want, int... row) {
        DigitBench x = Edges.at(a, b);
        Edges.tape(x, row);
        Edges.due("allowed() of " + Arrays.toString(row), x.allowed(), want);
        Edges.due("count(4)", x.count(4), 0);
    }

    private static void allowed() {
        Edges.edge(14, "NONE, if it is ALLOWED", () -> {
            allows(1, 1, NONE);
            allows(1, 1, NONE, 0);
            allows(1, 1, NONE, 1);
            allows(9, 9, NONE, 9);
            allows(9, -7, NONE, 8);
            allows(1, 1, NONE, new int[200]);
        });
        Edges.edge(14, "or there is none as far as it goes", () -> {
            int[] bar = new int[200];
            for (int i = 0; i < 200; i += 2) bar[i] = 1;
            allows(1, 1, NONE, bar);
            allows(1, 1, NONE, 1, 0, 1);
            allows(4, 3, NONE, 4, 2, 4, 2, 4);
            Arrays.fill(bar, 1);
            bar[0] = 8;
            allows(9, -7, NONE, bar);
            bar[199] = 2;
            allows(9, -7, 0, bar);
            bar[199] = 0;
            allows(9, -7, NONE, bar);
        });
        Edges.edge(14, "if they END, with the last one less by one, and all this again and again", () -> {
            allows(1, 1, 0, 1, 1);
            allows(9, 1, NONE, 9, 0, 9, 0);
            allows(9, 1, 0, 9, 1);
            allows(9, 9, NONE, 9, 8, 9, 8, 9);
            allows(9, 9, 0, 9, 9);
            allows(9, 9, 0, 9, 8, 9, 9);
            allows(2, 2, NONE, 2, 1, 2, 1);
            allows(2, 2, 0, 2, 1, 2, 2);
        });
        Edges.edge(14, "below: a - 1, then a + b - 1 again and again", () -> {
            allows(5, -2, NONE, 4, 2, 2, 2);
            allows(5, -2, 0, 4, 2, 2, 3);
            allows(5, -2, 0, 4, 3);
            allows(5, -2, 0, 5);
            allows(5, -2, NONE, 0, 4, 2, 2);
            allows(5, -2, NONE, 3, 4, 1, 4);
            allows(5, -2, 1, 3, 4, 3);
            allows(3, -1, NONE, 2, 1, 1);
            allows(3, -1, 0, 2, 1, 2);
        });
        Edges.edge(14, "The first place of the tape's row (bytes as digits with their signs; empty then) from which on it is not ahead of the BAR", () -> {
            allows(1, 1, 0, 2);
            allows(1, 1, 0, 127);
            allows(1, 1, 2, 0, 0, 2);
            allows(1, 1, 1, 0, 1, 1, 1);
            // from place 2 on it is above, too, but from place 0 on as well
            allows(1, 1, 0, 1, 0, 1, 1);
            allows(1, 1, 3, 1, 0, 0, 1, 1);
            allows(9, -7, 3, 8, 1, 0, 8, 2);
            int[] last = new int[200];
            last[199] = 2;
            allows(1, 1, 199, last);
            last[199] = 127;
            allows(9, 9, 199, last);
        });
        Edges.edge(14, "-2: a digit below 0", () -> {
            allows(1, 1, -2, -1);
            allows(1, 1, -2, -128);
            allows(1, 1, -2, 2, -1);
            allows(1, 1, -2, 1, 1, 0, -1);
            int[] last = new int[200];
            last[199] = -1;
            allows(1, 1, -2, last);
        });
    }

    private static void one() {
        Edges.edge(15, "ONE's digit k (1 to 60)", () -> {
            for (int a = 1; a <= 9; a++) {
                for (int b = 2 - a; b <= a; b++) {
                    if (b == 0) continue;
                    DigitBench x = Edges.at(a, b);
                    Edges.due("one(1)", x.one(1), b > 0 ? a : a - 1);
                    Edges.due("one(2)", x.one(2), b > 0 ? b : a + b - 1);
                    Edges.due("one(3)", x.one(3), b > 0 ? 0 : a + b - 1);
                    Edges.due("one(60)", x.one(60), b > 0 ? 0 : a + b - 1);
                }
            }
        });
        Edges.edge(15, "NoSuchElementException: another k", () -> {
            for (int k : new int[] {0, -1, 61, LEAST, MOST}) Edges.throwing("one(" + k + ")", x -> x.one(k));
        });
    }

    private static void rows() {
        Edges.edge(16, "How many ALLOWED rows of n digits there are (n 0 to 16)", () -> {
            for (int a = 1; a <= 9; a++) {
                for (int b = 2 - a; b <= a; b++) {
                    if (b == 0) continue;
                    DigitBench x = Edges.at(a, b);
                    Edges.due("rows(0)", x.rows(0), 1);
                    Edges.due("rows(1)", x.rows(1), b > 0 ? a + 1 : a);
                    // of two digits: any ahead of a lesser first one, else those up to the BAR's second
                    Edges.due("rows(2)", x.rows(2), b > 0 ? a * (a + 1) + b : (a - 1) * a + a + b);
                }
            }
            Edges.due("rows(16)", Edges.at(1, 1).rows(16), 2584);
            Edges.due("rows(15)", Edges.at(1, 1).rows(15), 1597);
            Edges.due("rows(16), more than an int has", Edges.at(9, 9).rows(16), 8703029361715560L);
        });
        Edges.edge(16, "NoSuchElementException: another n", () -> {
            for (int n : new int[] {-1, 17, LEAST, MOST}) Edges.throwing("rows(" + n + ")", x -> x.rows(n));
        });
    }

    private static void whole() {
        Edges.edge(17, "in their order they are number 0 (0), 1 (1), and so on", () -> {
            int[][] first = {{0, 0}, {1, 0}, {0, 1}, {1, 1}, {2, 1}, {1, 2}, {2, 2}, {1, 3}, {2, 3}};
            DigitBench x = new DigitBench();
            for (int n = 0; n < first.length; n++) {
                Edges.yes("whole(0, " + n + ")", x.whole(0, n));
                Edges.num(x, 0, first[n][0], first[n][1], 1);
            }
        });
        Edges.edge(17, "WHOLE one number n (0 to 50000)", () -> {
            for (int a = 1; a <= 9; a++) {
                for (int b = 2 - a; b <= a; b++) {
                    if (b == 0) continue;
                    DigitBench x = Edges.at(a, b);
                    Edges.yes("whole(0, 50000)", x.whole(0, 50000));
                    Edges.yes("whole(9, 0)", x.whole(9, 0));
                    Edges.num(x, 9, 0, 0, 1);
                    Edges.due("digits end", x.digits(0), 0);
                    Edges.due("at the point", x.told(1), 0);
                }
            }
            for (int n : new int[] {-1, 50001, LEAST, MOST}) {
                Edges.refused("whole(4, " + n + ")", x -> x.whole(4, n));
                Edges.refused("whole(5, " + n + ")", x -> x.whole(5, n));
            }
        });
        Edges.edge(17, "SLOT s: WHOLE one number n", () -> {
            for (int s : NO_SLOTS) Edges.refused("whole(" + s + ", 1)", x -> x.whole(s, 1));
        });
    }

    private static void rank() {
        Edges.edge(18, "Which WHOLE one NUMBER i is", () -> {
            for (int a = 1; a <= 9; a++) {
                for (int b = 2 - a; b <= a; b++) {
                    if (b == 0) continue;
                    DigitBench x = Edges.at(a, b);
                    for (int n : new int[] {0, 1, 2, 49999, 50000}) {
                        x.whole(0, n);
                        Edges.due("rank", x.rank(0), n);
                    }
                }
            }
        });
        Edges.edge(18, "NONE: no NUMBER", () -> {
            Edges.nothing("rank(1)", x -> x.rank(1));
            for (int i : NO_SLOTS) Edges.nothing("rank(" + i + ")", x -> x.rank(i));
        });
        Edges.edge(18, "none of them", () -> {
            int[][] not = {{2, 0, 1}, {1, 0, 2}, {0, 1, 2}, {-1, 0, 1}, {0, -1, 1}, {-1, 1, 1}, {46368, -28657, 1}, {-46368, 28657, 1}, {1, 0, 1000}};
            for (int[] n : not) {
                DigitBench x = Edges.used();
                x.number(1, n[0], n[1], n[2]);
                Edges.nothing(x, "rank of (" + n[0] + " + " + n[1] + " x) / " + n[2], b -> b.rank(1));
            }
        });
        Edges.edge(18, "or one beyond 50000", () -> {
            for (int a = 1; a <= 9; a++) {
                for (int b = 2 - a; b <= a; b++) {
                    if (b != 0) beyond(a, b);
                }
            }
            // far beyond: x^24 by the least BASE, 7 x^5 by the greatest
            Edges.none("rank of x^24", Edges.with(1, 1, 28657, 46368, 1).rank(0));
            Edges.none("rank of 7 x^5", Edges.with(9, 9, 7 * 8019, 7 * 8829, 1).rank(0));
        });
    }

    /** The WHOLE one behind number 50000 is more than it by 1 or by x less TOP: it has no rank. */
    private static void beyond(int a, int b) {
        DigitBench x = Edges.at(a, b);
        x.whole(0, 50000);
        int u = x.part(0, 0), v = x.part(0, 1), top = x.count(2), wholes = 0;
        for (int n = 0; n < 2; n++) {
            if (!(n == 0 ? x.number(1, u + 1, v, 1) : x.number(1, u - top, v + 1, 1))) continue;
            if (x.digits(1) == 0 && x.told(1) == 0) wholes++;
            Edges.none("rank behind 50000", x.rank(1));
        }
        Edges.yes("one of them is WHOLE", wholes > 0);
        Edges.due("rank(0)", x.rank(0), 50000);
    }

    public static void main(String[] args) {
        value();
        valueOfPowers();
        valueOfRounds();
        allowed();
        one();
        rows();
        whole();
        rank();
        Edges.close(13, 18);
    }
}
