import java.util.function.IntConsumer;

/** Boundary cases of promises 1 to 12: the tape, THE BASE, NUMBERS and their DIGITS. */
public final class EdgesOfNumbersTest {
    private static final int NONE = Edges.NONE;
    private static final int LEAST = Edges.LEAST;
    private static final int MOST = Edges.MOST;
    private static final int[] NO_SLOTS = {-1, 10, LEAST, MOST};

    private static void each(int[] all, IntConsumer test) { for (int n : all) test.accept(n); }

    private static void newObject() {
        Edges.edge(1, "a = 1, b = 1", () -> {
            DigitBench x = new DigitBench();
            Edges.due("count(0)", x.count(0), 1);
            Edges.due("count(1)", x.count(1), 1);
            Edges.due("one(1)", x.one(1), 1);
            Edges.due("one(2)", x.one(2), 1);
            Edges.due("one(3)", x.one(3), 0);
        });
        Edges.edge(1, "no NUMBERS", () -> {
            DigitBench x = new DigitBench();
            Edges.due("count(3)", x.count(3), 0);
            for (int i = 0; i < 10; i++) {
                Edges.empty(x, i);
                Edges.none("digits", x.digits(i));
                Edges.none("rank", x.rank(i));
                Edges.no("make", x.make(i, i, i, 0));
            }
            Edges.throwing(x, "part(0, 0)", b -> b.part(0, 0));
            Edges.throwing(x, "floor(9)", b -> b.floor(9));
        });
        Edges.edge(1, "no digits told", () -> {
            DigitBench x = new DigitBench();
            for (int what = 0; what < 3; what++) Edges.none("told", x.told(what));
            each(new int[] {0, 1, -1, LEAST, MOST}, k -> Edges.none("digit(" + k + ")", x.digit(k)));
        });
        Edges.edge(1, "the ring of one part, B = 10, SET 0 .. 9", () -> {
            DigitBench x = new DigitBench();
            Edges.due("count(5)", x.count(5), 10);
            Edges.due("count(6)", x.count(6), 10);
            Edges.due("count(7)", x.count(7), 1);
            for (int y = 1; y < 10; y++) {
                Edges.wrote(x, y, 0, 0, 1, 0);
                Edges.due("place(0)", x.place(0), y);
            }
            // by B = -10 it would have three digits
            Edges.wrote(x, 10, 0, 0, 2, 0);
            Edges.due("place(0)", x.place(0), 0);
            Edges.due("place(1)", x.place(1), 1);
        });
        Edges.edge(1, "an empty tape", () -> {
            DigitBench x = new DigitBench();
            Edges.due("count(4)", x.count(4), 0);
            Edges.no("end(1)", x.end(1));
            Edges.no("value(0, 1, 0)", x.value(0, 1, 0));
            Edges.due("feed", x.feed(0, 0, 0, 0, 0), 20);
        });
    }

    private static void feed() {
        Edges.edge(2, "Twenty bytes come behind the tape", () -> {
            DigitBench x = Edges.at(9, 9);
            x.feed(0x01020304, 0, 0, 0, 0);
            x.end(2);
            Edges.due("feed behind two bytes", x.feed(0x05060708, 0, 0, 0, 0), 22);
            x.end(4);
            // 1 2 5 6: x^3 = 81 + 90 x, x^2 = 9 + 9 x
            Edges.yes("value", x.value(0, 0, 0));
            Edges.num(x, 0, 81 + 18 + 6, 90 + 18 + 5, 1);
        });
        Edges.edge(2, "of each number the highest first", () -> {
            DigitBench x = new DigitBench();
            x.ring(true, 0, 0, 20, 0);
            int[] row = new int[20];
            for (int i = 0; i < 20; i++) row[i] = (7 * i + 3) % 20 + (i % 2 == 0 ? 20 : -40);
            int[] n = new int[5];
            for (int i = 0; i < 20; i++) n[i / 4] |= (row[i] & 255) << 24 - 8 * (i % 4);
            x.feed(n[0], n[1], n[2], n[3], n[4]);
            Edges.yes("set", x.set());
            for (int i = 0; i < 20; i++) {
                Edges.wrote(x, row[i], 0, 0, 1, 0);
                Edges.due("place(0) of " + row[i], x.place(0), i);
            }
        });
        Edges.edge(2, "how many it has", () -> {
            DigitBench x = new DigitBench();
            for (int n = 1; n <= 10; n++) Edges.due("feed " + n, x.feed(MOST, LEAST, -1, 0, 1), 20 * n);
            x.end(0);
            Edges.due("feed of an emptied one", x.feed(0, 0, 0, 0, 0), 20);
        });
        Edges.edge(2, "NONE, and none come, if it would have more than 200", () -> {
            DigitBench x = new DigitBench();
            for (int n = 1; n <= 10; n++) x.feed(0, 0, 0, 0, 0);
            Edges.nothing(x, "feed of a full one", b -> b.feed(-1, -1, -1, -1, -1));
            x.end(181);
            Edges.nothing(x, "feed to 201", b -> b.feed(-1, -1, -1, -1, -1));
            Edges.none("allowed: a byte of those would be below 0", x.allowed());
            for (int n = 1; n <= 10; n++) x.feed(0, 0, 0, 0, 0);
            x.end(180);
            Edges.due("feed to 200", x.feed(0, 0, 0, 0, -1), 200);
            Edges.due("allowed", x.allowed(), -2);
        });
    }

    private static void end() {
        Edges.edge(3, "The tape has its first n bytes alone: true", () -> {
            DigitBench x = new DigitBench();
            x.feed(0x02030405, 0, 0, 0, 0);
            Edges.yes("end(20)", x.end(20));
            Edges.due("count(4)", x.count(4), 20);
            Edges.yes("end(2)", x.end(2));
            Edges.due("count(4)", x.count(4), 2);
            Edges.yes("value", x.value(0, 0, 0));
            Edges.num(x, 0, 3, 2, 1);
            Edges.yes("end(0) of an empty one", x.end(0));
            for (int n = 0; n < 10; n++) x.feed(0, 0, 0, 0, 0);
            Edges.yes("end(200) of a full one", x.end(200));
            Edges.yes("end(0) of a full one", x.end(0));
            Edges.due("count(4)", x.count(4), 0);
        });
        Edges.edge(3, "false, if it has not so many", () -> {
            Edges.refused("end(21)", b -> b.end(21));
            Edges.refused("end(most)", b -> b.end(MOST));
            DigitBench x = Edges.used();
            x.end(5);
            Edges.refused(x, "end(6): what went off does not come back", b -> b.end(6));
            x.end(0);
            Edges.refused(x, "end(1) of an empty one", b -> b.end(1));
        });
        Edges.edge(3, "or n is below 0", () -> {
            Edges.refused("end(-1)", b -> b.end(-1));
            Edges.refused("end(least)", b -> b.end(LEAST));
            Edges.refused(new DigitBench(), "end(-1) of an empty one", b -> b.end(-1));
        });
    }

    private static void base() {
        Edges.edge(4, "a from 1 to 9", () -> {
            Edges.at(1, 1);
            Edges.at(9, 1);
            int[][] bad = {{0, 1}, {0, -1}, {10, 1}, {10, -1}, {10, -8}, {-1, -1}, {-1, 3}, {LEAST, 1}, {MOST, 1}, {MOST, -1}, {MOST, LEAST}};
            for (int[] n : bad) Edges.refused("base(" + n[0] + ", " + n[1] + ")", x -> x.base(n[0], n[1]));
        });
        Edges.edge(4, "b from -8 to 9, not 0", () -> {
            Edges.at(9, 9);
            Edges.at(9, -7);
            int[][] bad = {{9, 10}, {9, -8}, {9, -9}, {10, -8}, {1, 0}, {2, 0}, {9, 0}, {9, LEAST}, {9, MOST}, {1, LEAST}};
            for (int[] n : bad) Edges.refused("base(" + n[0] + ", " + n[1] + ")", x -> x.base(n[0], n[1]));
        });
        Edges.edge(4, "(b above 0: b <= a; below: a + b >= 2)", () -> {
            for (int n = 1; n <= 9; n++) {
                int a = n;
                Edges.at(a, a);
                Edges.refused("base(" + a + ", a + 1)", x -> x.base(a, a + 1));
                if (a > 2) Edges.at(a, 2 - a);
                Edges.refused("base(" + a + ", 1 - a)", x -> x.base(a, 1 - a));
            }
        });
        Edges.edge(4, "true (no NUMBERS, no digits told; also if it is the same)", () -> {
            for (int n = 0; n < 2; n++) {
                DigitBench x = new DigitBench();
                for (int s = 0; s < 10; s++) x.number(s, s + 1, 0, 2);
                x.digits(0);
                Edges.due("count(3)", x.count(3), 10);
                Edges.due("told(2)", x.told(2), 3);
                Edges.yes("base", n == 0 ? x.base(1, 1) : x.base(2, 1));
                Edges.due("count(3)", x.count(3), 0);
                for (int s = 0; s < 10; s++) Edges.empty(x, s);
                for (int what = 0; what < 3; what++) Edges.none("told", x.told(what));
                for (int k = -3; k < 3; k++) Edges.none("digit", x.digit(k));
            }
        });
        Edges.edge(4, "Another BASE: true", () -> {
            // behind any other one it is as on a new object, with its greatest powers and its longest rows
            int[][] all = {{9, 9}, {1, 1}, {9, -7}, {3, -1}, {9, 9}, {2, 1}, {1, 1}, {9, 1}, {1, 1}};
            DigitBench x = new DigitBench();
            for (int[] n : all) {
                Edges.yes("base", x.base(n[0], n[1]));
                DigitBench fresh = Edges.at(n[0], n[1]);
                Edges.due("rows(16)", x.rows(16), fresh.rows(16));
                Edges.yes("whole", x.whole(0, 50000));
                fresh.whole(0, 50000);
                Edges.num(x, 0, fresh.part(0, 0), fresh.part(0, 1), 1);
                Edges.due("rank(0)", x.rank(0), 50000);
                x.number(1, 65536, 65536, 1);
                fresh.number(1, 65536, 65536, 1);
                Edges.due("digits(1)", x.digits(1), fresh.digits(1));
                for (int what = 0; what < 3; what++) Edges.due("told(" + what + ")", x.told(what), fresh.told(what));
                for (int k = 26; k > 0; k--) Edges.due("digit(" + k + ")", x.digit(k), fresh.digit(k));
                Edges.none("rank(1)", x.rank(1));
            }
        });
        Edges.edge(4, "false, if it is not as told", () -> {
            DigitBench x = Edges.used();
            Edges.refused(x, "base(1, 2)", b -> b.base(1, 2));
            Edges.due("one(2) of the old one", x.one(2), 1);
            Edges.due("rows(3) of the old one", x.rows(3), 5);
            x.base(5, -3);
            Edges.refused(x, "base(5, -4)", b -> b.base(5, -4));
            Edges.due("one(2) of the old one", x.one(2), 1);
            Edges.due("rows(2) of the old one", x.rows(2), 22);
        });
    }

    private static void number() {
        Edges.edge(5, "u, v from -65536 to 65536, d from 1 to 1000", () -> {
            int[][] good = {{65536, 0, 1}, {-65536, 0, 1}, {0, 65536, 1}, {0, -65536, 1}, {65536, -65536, 1}, {1, 0, 1000}, {0, -1, 999},
                {65536, 65535, 1000}, {-65535, -65536, 1000}, {0, 0, 1}};
            for (int[] n : good) {
                DigitBench x = Edges.with(1, 1, n[0], n[1], n[2]);
                Edges.num(x, 0, n[0], n[1], n[2]);
            }
            int[][] bad = {{65537, 0, 1}, {-65537, 0, 1}, {0, 65537, 1}, {0, -65537, 1}, {65537, 65537, 1}, {1, 0, 1001}, {0, 1, 1001},
                {1, 1, MOST}, {MOST, 0, 1}, {0, LEAST, 1}, {LEAST, LEAST, MOST}};
            for (int[] n : bad) Edges.refused("number(4, " + n[0] + ", " + n[1] + ", " + n[2] + ")", x -> x.number(4, n[0], n[1], n[2]));
        });
        Edges.edge(5, "without a divisor in common (all three; they are divided by it first)", () -> {
            int[][] good = {{131072, 0, 2, 65536, 0, 1}, {131072, -131072, 2, 65536, -65536, 1}, {2, 4, 2000, 1, 2, 1000}, {6, 10, 4, 3, 5, 2},
                {6, 10, 15, 6, 10, 15}, {LEAST, 0, 32768, -65536, 0, 1}, {LEAST, LEAST, 1 << 30, -2, -2, 1}, {MOST, 0, MOST, 1, 0, 1},
                {0, MOST, MOST, 0, 1, 1}, {0, 0, MOST, 0, 0, 1}, {0, 0, 1000, 0, 0, 1}};
            for (int[] n : good) Edges.num(Edges.with(1, 1, n[0], n[1], n[2]), 0, n[3], n[4], n[5]);
            // two of three have a divisor in common, or the parts are beyond all the same
            int[][] bad = {{131074, 0, 2}, {131072, 1, 2}, {1, 131072, 2}, {131072, 131072, 1}, {2, 2, 1001}, {2, 4, 2002}, {2, 1, 2000},
                {LEAST, 0, 32767}, {LEAST, 1, 32768}};
            for (int[] n : bad) Edges.refused("number(4, " + n[0] + ", " + n[1] + ", " + n[2] + ")", x -> x.number(4, n[0], n[1], n[2]));
        });
        Edges.edge(5, "false, if it is refused (d 0 or below, too; u, v, d are any ints)", () -> {
            int[][] bad = {{1, 1, 0}, {0, 0, 0}, {1, 1, -1}, {5, 5, -5}, {0, 0, -1}, {LEAST, LEAST, LEAST}, {MOST, LEAST, LEAST}, {LEAST, LEAST, -1}};
            for (int[] n : bad) Edges.refused("number(4, " + n[0] + ", " + n[1] + ", " + n[2] + ")", x -> x.number(4, n[0], n[1], n[2]));
        });
        Edges.edge(5, "what would be beyond is refused: the SLOT stays", () -> {
            DigitBench x = Edges.used();
            Edges.no("number of slot 4", x.number(4, 65537, 0, 1));
            Edges.num(x, 4, -3, 2, 5);
            Edges.no("number of slot 5", x.number(5, 65537, 0, 1));
            Edges.empty(x, 5);
            Edges.due("count(3)", x.count(3), 3);
        });
        Edges.edge(5, "or there is no such SLOT", () -> {
            each(NO_SLOTS, s -> Edges.refused("number(" + s + ", 1, 0, 1)", x -> x.number(s, 1, 0, 1)));
            DigitBench x = new DigitBench();
            Edges.yes("number(0, ..)", x.number(0, 1, 0, 1));
            Edges.yes("number(9, ..)", x.number(9, 2, 0, 1));
            Edges.due("count(3)", x.count(3), 2);
        });
    }

    /** Slot 0 has the first NUMBER, slot 1 the second, slot 2 another one. */
    private static DigitBench pair(int u, int v, int d, int otherU, int otherV, int otherD) {
        DigitBench x = Edges.with(1, 1, u, v, d);
        Edges.yes("number(1, ..)", x.number(1, otherU, otherV, otherD));
        x.number(2, 7, 7, 7);
        return x;
    }

    private static void make() {
        Edges.edge(6, "what 0 i and j together", () -> {
            DigitBench x = pair(65535, -65535, 1, 1, -1, 1);
            Edges.yes("to 65536", x.make(2, 0, 1, 0));
            Edges.num(x, 2, 65536, -65536, 1);
            Edges.refused(x, "to 65537", b -> b.make(0, 2, 1, 0));
            DigitBench y = pair(1, 0, 8, 1, 0, 125);
            Edges.yes("to a divisor of 1000", y.make(2, 0, 1, 0));
            Edges.num(y, 2, 133, 0, 1000);
            Edges.refused(pair(1, 0, 7, 1, 0, 143), "to a divisor of 1001", b -> b.make(2, 0, 1, 0));
            DigitBench z = pair(1, 0, 1000, 1, 0, 1000);
            Edges.yes("a divisor that shrinks", z.make(2, 0, 1, 0));
            Edges.num(z, 2, 1, 0, 500);
        });
        Edges.edge(6, "1 i less j", () -> {
            DigitBench x = pair(-65535, 65535, 1, 1, -1, 1);
            Edges.yes("to -65536", x.make(2, 0, 1, 1));
            Edges.num(x, 2, -65536, 65536, 1);
            Edges.refused(x, "to -65537", b -> b.make(0, 2, 1, 1));
            Edges.yes("less itself, into itself", x.make(0, 0, 0, 1));
            Edges.num(x, 0, 0, 0, 1);
        });
        Edges.edge(6, "2 i times j", () -> {
            DigitBench x = pair(0, 65536, 1, 0, 1, 1);
            Edges.yes("65536 x times x", x.make(2, 0, 1, 2));
            Edges.num(x, 2, 65536, 65536, 1);
            Edges.refused(x, "65536 x x times x", b -> b.make(0, 2, 1, 2));
            Edges.refused(x, "the greatest ones", b -> b.make(0, 2, 2, 2));
            DigitBench y = pair(999, 0, 1000, 1000, 0, 999);
            Edges.yes("parts that shrink", y.make(2, 0, 1, 2));
            Edges.num(y, 2, 1, 0, 1);
            Edges.refused(pair(1, 1, 40, 1, 0, 26), "a divisor of 1040", b -> b.make(2, 0, 1, 2));
            DigitBench z = Edges.at(9, 9);
            z.number(0, 65536, 65536, 1);
            z.number(1, -65536, -65536, 1);
            Edges.refused(z, "beyond by far", b -> b.make(2, 0, 1, 2));
        });
        Edges.edge(6, "3 i by j (not 0)", () -> {
            DigitBench x = pair(5, 3, 2, 0, 0, 1);
            Edges.refused(x, "by 0", b -> b.make(2, 0, 1, 3));
            Edges.refused(x, "0 by 0", b -> b.make(2, 1, 1, 3));
            Edges.yes("0 by it", x.make(2, 1, 0, 3));
            Edges.num(x, 2, 0, 0, 1);
            Edges.yes("by itself", x.make(0, 0, 0, 3));
            Edges.num(x, 0, 1, 0, 1);
            // by 1, and by x x = x + 1, which go into all
            DigitBench unit = pair(5, 3, 2, 1, 0, 1);
            Edges.yes("by 1", unit.make(2, 0, 1, 3));
            Edges.num(unit, 2, 5, 3, 2);
            unit.number(1, 1, 1, 1);
            Edges.yes("by x x", unit.make(2, 0, 1, 3));
            // (5 + 3 x) (2 - x) = 7 - 2 x
            Edges.num(unit, 2, 7, -2, 2);
            // 1 by 1 - x, whose norm is below 0: -x
            DigitBench y = pair(1, 0, 1, 1, -1, 1);
            Edges.yes("1 by 1 - x", y.make(2, 0, 1, 3));
            Edges.num(y, 2, 0, -1, 1);
            DigitBench z = Edges.at(9, 9);
            z.number(0, 65536, 65536, 999);
            z.number(1, 65535, -65536, 1000);
            Edges.refused(z, "beyond by far", b -> b.make(2, 0, 1, 3));
            Edges.yes("great ones by themselves", z.make(2, 1, 1, 3));
            Edges.num(z, 2, 1, 0, 1);
        });
        Edges.edge(6, "False, too, if one has none", () -> {
            for (int op = 0; op < 4; op++) {
                int what = op;
                Edges.refused("i has none", x -> x.make(2, 1, 0, what));
                Edges.refused("j has none", x -> x.make(2, 0, 1, what));
            }
            each(NO_SLOTS, n -> {
                Edges.refused("i is no slot", x -> x.make(2, n, 0, 0));
                Edges.refused("j is no slot", x -> x.make(2, 0, n, 0));
                Edges.refused("s is no slot", x -> x.make(n, 0, 4, 0));
            });
        });
        Edges.edge(6, "or for another what", () -> each(new int[] {-1, 4, LEAST, MOST}, n -> Edges.refused("make(.., " + n + ")", x -> x.make(2, 0, 4, n))));
    }

    private static void part() {
        Edges.edge(7, "NoSuchElementException: there is none", () -> {
            for (int what = 0; what < 3; what++) {
                int n = what;
                Edges.throwing("part(1, " + n + ")", x -> x.part(1, n));
            }
            each(NO_SLOTS, i -> Edges.throwing("part(" + i + ", 0)", x -> x.part(i, 0)));
        });
        Edges.edge(7, "or another what", () -> each(new int[] {-1, 3, LEAST, MOST}, n -> Edges.throwing("part(0, " + n + ")", x -> x.part(0, n))));
        Edges.edge(7, "The NUMBER's u (what 0), v (1), d (2)", () -> {
            Edges.num(Edges.with(1, 1, -65536, 65536, 3), 0, -65536, 65536, 3);
            Edges.num(Edges.with(1, 1, 0, 0, 7), 0, 0, 0, 1);
        });
    }

    private static void compare() {
        Edges.edge(8, "-1, 0, 1, as NUMBER i is less than, as much as, more than j", () -> {
            // they differ by (F40 - F39 x) / 999000 with Fibonacci's numbers: 7 in 10^15 below 0
            DigitBench x = pair(51540, -31264, 999, -50845, 32014, 1000);
            Edges.due("less by nearly nothing", x.compare(0, 1), -1);
            Edges.due("more by nearly nothing", x.compare(1, 0), 1);
            Edges.due("itself", x.compare(0, 0), 0);
            DigitBench y = pair(46368, -28657, 1, 0, 0, 1);
            Edges.due("just below 0", y.compare(0, 1), -1);
            Edges.due("0 above it", y.compare(1, 0), 1);
            DigitBench z = pair(3, 3, 6, 1, 1, 2);
            Edges.due("the same by other parts", z.compare(0, 1), 0);
            Edges.due("more by 1/999000", pair(1, 0, 999, 1, 0, 1000).compare(0, 1), 1);
            Edges.due("less by 1/999000", pair(998, 0, 999, 999, 0, 1000).compare(0, 1), -1);
            Edges.due("more by (x - 1)/999000", pair(998, 1, 999, 999, 1, 1000).compare(0, 1), 1);
            DigitBench far = Edges.at(9, 9);
            far.number(0, 65536, 65536, 1);
            far.number(1, -65536, -65536, 1);
            Edges.due("the greatest and the least", far.compare(0, 1), 1);
            Edges.due("the least and the greatest", far.compare(1, 0), -1);
        });
        Edges.edge(8, "2 without one", () -> {
            DigitBench x = Edges.used();
            Edges.due("no i", x.compare(1, 0), 2);
            Edges.due("no j", x.compare(0, 1), 2);
            Edges.due("neither", x.compare(1, 1), 2);
            each(NO_SLOTS, n -> {
                Edges.due("compare(" + n + ", 0)", x.compare(n, 0), 2);
                Edges.due("compare(0, " + n + ")", x.compare(0, n), 2);
                Edges.due("compare(" + n + ", " + n + ")", x.compare(n, n), 2);
            });
        });
    }

    private static void floorIs(int a, int b, int u, int v, int d, long want) {
        Edges.due("floor of (" + u + " + " + v + " x) / " + d, Edges.with(a, b, u, v, d).floor(0), want);
    }

    private static void floor() {
        Edges.edge(9, "The greatest whole number that is not above NUMBER i", () -> {
            floorIs(1, 1, 5, 0, 1, 5);
            floorIs(1, 1, -5, 0, 1, -5);
            floorIs(1, 1, 0, 0, 1, 0);
            floorIs(1, 1, 999, 0, 1000, 0);
            floorIs(1, 1, -1, 0, 1000, -1);
            floorIs(1, 1, 46368, -28657, 1, -1);
            floorIs(1, 1, -46368, 28657, 1, 0);
            floorIs(1, 1, 46368, -28657, 1000, -1);
            floorIs(1, 1, -46368, 28657, 1000, 0);
            // 28657 - 17711 x is above 0 by as little
            floorIs(1, 1, 28657, -17711, 1, 0);
            floorIs(1, 1, -28657, 17711, 1, -1);
            // x = 9.908326913..: 714888.1..
            floorIs(9, 9, 65536, 65536, 1, 714888);
            floorIs(9, 9, -65536, -65536, 1, -714889);
        });
        Edges.edge(9, "TOP is the greatest whole number below x", () -> {
            for (int a = 1; a <= 9; a++) {
                for (int b = 2 - a; b <= a; b++) {
                    if (b == 0) continue;
                    floorIs(a, b, 0, 1, 1, b > 0 ? a : a - 1);
                    floorIs(a, b, 0, -1, 1, b > 0 ? -a - 1 : -a);
                }
            }
        });
        Edges.edge(9, "NoSuchElementException: there is none", () -> {
            Edges.throwing("floor(1)", x -> x.floor(1));
            each(NO_SLOTS, i -> Edges.throwing("floor(" + i + ")", x -> x.floor(i)));
        });
    }

    private static void digits() {
        Edges.edge(10, "from the greatest one that is not above it (x^0, if it is below 1)", () -> {
            Edges.told(Edges.with(1, 1, 0, 0, 1), 0, 0, 0, 0);
            Edges.told(Edges.with(1, 1, 1, 0, 1), 0, 0, 0, 0);
            Edges.told(Edges.with(1, 1, 0, 1, 1), 0, 1, 0, 0);
            Edges.told(Edges.with(1, 1, 1, 0, 2), 1, 0, 0, 3);
            // x^24, and 65536 + 65536 x above x^25
            Edges.told(Edges.with(1, 1, 28657, 46368, 1), 0, 24, 0, 0);
            DigitBench great = Edges.with(1, 1, 65536, 65536, 1);
            great.digits(0);
            Edges.due("told(0) of the greatest", great.told(0), 25);
            // just below x, and just above it
            DigitBench below = Edges.with(1, 1, 46368, -28656, 1);
            below.digits(0);
            Edges.due("told(0) just below x", below.told(0), 0);
            DigitBench above = Edges.with(1, 1, -46368, 28658, 1);
            above.digits(0);
            Edges.due("told(0) just above x", above.told(0), 1);
        });
        Edges.edge(10, "They END, where nothing is left", () -> {
            DigitBench x = Edges.with(1, 1, 0, 0, 1);
            Edges.told(x, 0, 0, 0, 0);
            Edges.due("digit(0) of 0", x.digit(0), 0);
            // 2 = x + x^-2
            Edges.told(Edges.with(1, 1, 2, 0, 1), 0, 1, 2, 0);
        });
        Edges.edge(10, "is what it was behind an earlier place (behind the point, or at it)", () -> {
            Edges.told(Edges.with(1, 1, 1, 0, 2), 1, 0, 0, 3);
            // x x = 3 x - 1: x - 2 is 0.(1), by x it is 0.0(1)
            Edges.told(Edges.with(3, -1, -2, 1, 1), 1, 0, 0, 1);
            Edges.told(Edges.with(3, -1, -5, 2, 1), 1, 0, 1, 1);
        });
        Edges.edge(10, "Only 400 places behind the point are looked at", () -> {
            // found by search: these come back just by place 400, those by 401
            Edges.told(Edges.with(1, 1, 1, 0, 175), 1, 0, 0, 400);
            Edges.told(Edges.with(9, 2, 0, 1, 802), 1, 0, 0, 400);
            Edges.told(Edges.with(9, 2, 1, 0, 802), 2, 0, 400, 0);
            Edges.told(Edges.with(9, -4, 1, 0, 397), 1, 0, 4, 396);
            Edges.told(Edges.with(9, -4, 0, 1, 597), 2, 0, 400, 0);
        });
        Edges.edge(10, "2 neither in 400 places", () -> Edges.told(Edges.with(1, 1, 1, 0, 1000), 2, 0, 400, 0));
        Edges.edge(10, "An object is used for at most 512 calls after it has been made", () -> {
            DigitBench x = Edges.with(1, 1, 1, 0, 175);
            for (int n = 0; n < 500; n++) Edges.due("digits(0) again", x.digits(0), 1);
            Edges.due("told(2)", x.told(2), 400);
        });
        Edges.edge(10, "NONE: no NUMBER, or below 0 (those told before stay told)", () -> {
            Edges.nothing("digits(1)", x -> x.digits(1));
            each(NO_SLOTS, i -> Edges.nothing("digits(" + i + ")", x -> x.digits(i)));
            int[][] below = {{-1, 0, 1}, {-1, 0, 1000}, {46368, -28657, 1}, {46368, -28657, 1000}, {-65536, -65536, 1}};
            for (int[] n : below) {
                DigitBench x = Edges.used();
                x.number(1, n[0], n[1], n[2]);
                Edges.nothing(x, "digits of one below 0", b -> b.digits(1));
            }
            DigitBench y = Edges.with(1, 1, -46368, 28657, 1);
            Edges.yes("just above 0 it has digits", y.digits(0) != NONE);
        });
    }

    private static void told() {
        Edges.edge(11, "0 the greatest power", () -> {
            Edges.told(Edges.with(1, 1, 999, 0, 1000), 2, 0, 400, 0);
            Edges.told(Edges.with(9, 9, 0, 1, 1), 0, 1, 0, 0);
        });
        Edges.edge(11, "1 how many places behind the point are ahead of the ROUND (or of the end; 400, if neither)", () -> {
            Edges.told(Edges.with(3, -1, -5, 2, 1), 1, 0, 1, 1);
            // 1 / x = (x - 2) / 2 by x x = 2 x + 2
            Edges.told(Edges.with(2, 2, -2, 1, 2), 0, 0, 1, 0);
            Edges.told(Edges.with(1, 1, 1, 0, 1000), 2, 0, 400, 0);
        });
        Edges.edge(11, "2 how many the ROUND has (0, if they END, or neither)", () -> {
            DigitBench x = Edges.with(1, 1, 1, 0, 2);
            Edges.told(x, 1, 0, 0, 3);
            x.number(0, 5, 0, 1);
            Edges.told(x, 0, 3, 4, 0);
            x.number(0, 1, 0, 2);
            Edges.told(x, 1, 0, 0, 3);
            x.number(0, 1, 0, 1000);
            Edges.told(x, 2, 0, 400, 0);
        });
        Edges.edge(11, "NONE for another what, or ahead of any", () -> {
            int[] whats = {-1, 3, LEAST, MOST};
            DigitBench x = Edges.used();
            each(whats, what -> Edges.none("told(" + what + ")", x.told(what)));
            DigitBench y = new DigitBench();
            y.number(0, -1, 0, 1);
            Edges.none("digits(0)", y.digits(0));
            each(new int[] {0, 1, 2, -1, 3}, what -> Edges.none("told(" + what + ")", y.told(what)));
        });
    }

    private static void digit() {
        Edges.edge(12, "(k below 0: behind the point; within the ROUND again and again)", () -> {
            DigitBench x = Edges.with(1, 1, 1, 0, 2);
            x.digits(0);
            for (int k = 1; k <= 12; k++) Edges.due("digit(-" + k + ")", x.digit(-k), k % 3 == 2 ? 1 : 0);
            // place 2147483648 is the second of three, that ahead of it the first
            Edges.due("digit(least)", x.digit(LEAST), 1);
            Edges.due("digit(least + 1)", x.digit(LEAST + 1), 0);
            Edges.due("digit(least + 2)", x.digit(LEAST + 2), 0);
            DigitBench y = Edges.with(9, -4, 1, 0, 397);
            y.digits(0);
            for (int k = 5; k <= 60; k++) Edges.due("place " + (k + 396), y.digit(-k - 396), y.digit(-k));
            Edges.due("place 796", y.digit(-796), y.digit(-400));
            // 1/2 by x^2 and by x^4: 0.0(001) and 0.000(001)
            for (int ahead = 1; ahead <= 3; ahead += 2) {
                DigitBench half = ahead == 1 ? Edges.with(1, 1, 2, -1, 2) : Edges.with(1, 1, 5, -3, 2);
                Edges.told(half, 1, 0, ahead, 3);
                for (int k = 1; k <= 30; k++) Edges.due("digit(-" + k + ")", half.digit(-k), k > ahead && (k - ahead) % 3 == 0 ? 1 : 0);
                Edges.due("digit(least + 1)", half.digit(LEAST + 1), (MOST - ahead) % 3 == 0 ? 1 : 0);
                Edges.due("digit(least)", half.digit(LEAST), (MOST - ahead + 1) % 3 == 0 ? 1 : 0);
            }
            // 0.0(1): the place ahead of the ROUND does not come again
            DigitBench z = Edges.with(3, -1, -5, 2, 1);
            z.digits(0);
            Edges.due("digit(-1)", z.digit(-1), 0);
            each(new int[] {-2, -3, -400, -401, -402, LEAST}, k -> Edges.due("digit(" + k + ")", z.digit(k), 1));
        });
        Edges.edge(12, "0 above and behind the end", () -> {
            // 4 = x^2 + 1 + x^-2; 33 has told digits further up and down
            DigitBench x = Edges.with(1, 1, 33, 0, 1);
            x.digits(0);
            x.number(0, 4, 0, 1);
            Edges.told(x, 0, 2, 2, 0);
            int[] row = {1, 0, 1, 0, 1};
            for (int i = 0; i < 5; i++) Edges.due("digit(" + (2 - i) + ")", x.digit(2 - i), row[i]);
            for (int k = 3; k < 60; k++) Edges.due("digit(" + k + ")", x.digit(k), 0);
            for (int k = 3; k < 60; k++) Edges.due("digit(-" + k + ")", x.digit(-k), 0);
            each(new int[] {MOST, -400, -401, LEAST}, k -> Edges.due("digit(" + k + ")", x.digit(k), 0));
        });
        Edges.edge(12, "with neither, or ahead of any: NONE for what is not told", () -> {
            DigitBench x = Edges.with(1, 1, 1, 0, 1000);
            each(new int[] {0, 1, -1, MOST, LEAST}, k -> Edges.none("digit(" + k + ") ahead of any", x.digit(k)));
            x.digits(0);
            Edges.yes("place 400 is told", x.digit(-400) == 0 || x.digit(-400) == 1);
            each(new int[] {-401, -402, -800, LEAST}, k -> Edges.none("digit(" + k + ")", x.digit(k)));
            each(new int[] {0, 1, 47, 48, MOST}, k -> Edges.due("digit(" + k + ")", x.digit(k), 0));
        });
    }

    public static void main(String[] args) {
        newObject();
        feed();
        end();
        base();
        number();
        make();
        part();
        compare();
        floor();
        digits();
        told();
        digit();
        Edges.close(1, 12);
    }
}
