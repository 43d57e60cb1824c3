import java.util.NoSuchElementException;

/** Each promise of the document by itself: ordinary inputs, the edges it names, wrong inputs. */
public final class PromisesTest {
    interface Call { long get(); }

    private static final int NONE = DigitBench.NONE;
    private static final long THROWS = Long.MIN_VALUE;
    private static final int LEAST = Integer.MIN_VALUE;
    private static final int MOST = Integer.MAX_VALUE;
    private static int wrong = 0;
    private static int promise = 0;

    private static void due(String call, long got, long want) {
        if (got != want) {
            wrong++;
            System.out.println("promise " + promise + ": " + call + " answered " + got + ", due is " + want);
        }
    }

    private static void yes(String call, boolean got) { due(call, got ? 1 : 0, 1); }

    private static void no(String call, boolean got) { due(call, got ? 1 : 0, 0); }

    private static void none(String call, Call c) {
        long got;
        try { got = c.get(); } catch (NoSuchElementException e) { got = THROWS; }
        due(call, got, THROWS);
    }

    /** The tape has just these bytes then. */
    private static void tape(DigitBench x, int... row) {
        x.end(0);
        for (int at = 0; at < row.length; at += 20) {
            int[] n = new int[5];
            for (int i = 0; i < 20; i++) n[i / 4] = n[i / 4] << 8 | (at + i < row.length ? row[at + i] & 255 : 0);
            x.feed(n[0], n[1], n[2], n[3], n[4]);
        }
        x.end(row.length);
    }

    private static void num(DigitBench x, int s, int u, int v, int d) {
        String name = "slot " + s;
        due(name + " u", x.part(s, 0), u);
        due(name + " v", x.part(s, 1), v);
        due(name + " d", x.part(s, 2), d);
    }

    private static void told(DigitBench x, int top, int ahead, int length) {
        due("told(0)", x.told(0), top);
        due("told(1)", x.told(1), ahead);
        due("told(2)", x.told(2), length);
    }

    private static DigitBench at(int a, int b) {
        DigitBench x = new DigitBench();
        yes("base(" + a + ", " + b + ")", x.base(a, b));
        return x;
    }

    private static void newObject() {
        promise = 1;
        DigitBench x = new DigitBench();
        int[] due = {1, 1, 1, 0, 0, 10, 10, 1};
        for (int what = 0; what < due.length; what++) due("count(" + what + ")", x.count(what), due[what]);
        for (int s = 0; s < 10; s++) due("compare", x.compare(s, s), 2);
        due("told(0)", x.told(0), NONE);
        due("digit(0)", x.digit(0), NONE);
        due("written(0)", x.written(0), NONE);
        none("round(0, 0)", () -> x.round(0, 0));
        due("write(7, 0)", x.write(7, 0), 0);
        due("place(0)", x.place(0), 7);
    }

    private static void feed() {
        promise = 2;
        DigitBench x = new DigitBench();
        for (int n = 1; n <= 10; n++) due("feed " + n, x.feed(n, n, n, n, n), 20 * n);
        due("feed 11", x.feed(1, 1, 1, 1, 1), NONE);
        due("count(4)", x.count(4), 200);
        yes("end(180)", x.end(180));
        due("feed", x.feed(1, 1, 1, 1, 1), 200);
        yes("end(181)", x.end(181));
        due("feed", x.feed(1, 1, 1, 1, 1), NONE);
        due("count(4)", x.count(4), 181);
        x.end(0);
        x.feed(0x01FE0304, 0x05060708, 0, 0, 0);
        x.end(2);
        yes("value", x.value(0, 0, 0));
        num(x, 0, -2, 1, 1);
        x.feed(0, 0, 0, 0, 0x00000509);
        yes("value", x.value(0, 0, 0));
        num(x, 0, 9, 5, 1);
        x.feed(0x00000001, 0x01000000, 0, 0, 0);
        x.end(6);
        due("allowed, over two numbers", x.allowed(), 3);
    }

    private static void end() {
        promise = 3;
        DigitBench x = new DigitBench();
        yes("end(0) of an empty one", x.end(0));
        no("end(1) of an empty one", x.end(1));
        x.feed(0x01010101, 0, 0, 0, 0);
        no("end(-1)", x.end(-1));
        no("end(least)", x.end(LEAST));
        no("end(21)", x.end(21));
        due("count(4)", x.count(4), 20);
        yes("end(20)", x.end(20));
        yes("end(1)", x.end(1));
        no("end(2)", x.end(2));
        due("count(4)", x.count(4), 1);
        yes("value", x.value(0, 0, 0));
        num(x, 0, 1, 0, 1);
    }

    private static void base() {
        promise = 4;
        DigitBench x = new DigitBench();
        int taken = 0;
        for (int a = -1; a <= 11; a++) {
            for (int b = -10; b <= 11; b++) {
                boolean fine = a >= 1 && a <= 9 && b != 0 && b <= 9 && (b > 0 ? b <= a : a + b >= 2);
                if (fine) { taken++; yes("base", x.base(a, b)); } else no("base", x.base(a, b));
            }
        }
        due("bases", taken, 45 + 28);
        no("base(least)", x.base(LEAST, LEAST));
        no("base(most)", x.base(MOST, MOST));
        no("base(9, least)", x.base(9, LEAST));
        x.base(3, -1);
        x.number(2, 1, 0, 1);
        x.digits(2);
        no("base(2, -1)", x.base(2, -1));
        due("count(3)", x.count(3), 1);
        due("told(0)", x.told(0), 0);
        yes("base(3, -1) again", x.base(3, -1));
        due("count(3)", x.count(3), 0);
        due("told(0)", x.told(0), NONE);
        x.feed(0, 0, 0, 0, 0);
        x.write(5, 0);
        x.base(4, 4);
        due("count(4) stays", x.count(4), 20);
        due("written(0) stays", x.written(0), 1);
    }

    private static void number() {
        promise = 5;
        DigitBench x = new DigitBench();
        yes("number", x.number(0, 65536, -65536, 1000));
        num(x, 0, 8192, -8192, 125);
        yes("number", x.number(9, -65536, 65535, 1000));
        num(x, 9, -65536, 65535, 1000);
        no("number", x.number(9, 65537, 0, 1));
        no("number", x.number(9, 0, -65537, 1));
        no("number", x.number(9, 1, 1, 1001));
        no("number", x.number(9, 1, 1, 0));
        no("number", x.number(9, 2, 2, -2));
        no("number", x.number(9, LEAST, MOST, LEAST));
        no("number", x.number(9, 1, 1, MOST));
        num(x, 9, -65536, 65535, 1000);
        no("number", x.number(10, 1, 1, 1));
        no("number", x.number(-1, 1, 1, 1));
        no("number", x.number(LEAST, 1, 1, 1));
        yes("number", x.number(1, LEAST, LEAST, 1 << 30));
        num(x, 1, -2, -2, 1);
        yes("number", x.number(1, MOST, 0, MOST));
        num(x, 1, 1, 0, 1);
        yes("number", x.number(1, 0, 0, MOST));
        num(x, 1, 0, 0, 1);
        yes("number", x.number(1, 6, 9, 12));
        num(x, 1, 2, 3, 4);
        due("count(3)", x.count(3), 3);
    }

    private static void make() {
        promise = 6;
        DigitBench x = at(3, -1);
        x.number(0, 1, 2, 3);
        x.number(1, -1, 1, 2);
        yes("sum", x.make(2, 0, 1, 0));
        num(x, 2, -1, 7, 6);
        yes("difference", x.make(2, 0, 1, 1));
        num(x, 2, 5, 1, 6);
        yes("product", x.make(2, 0, 1, 2));
        // (1 + 2x)(-1 + x) = -1 - x + 2xx = -3 + 5x
        num(x, 2, -3, 5, 6);
        yes("by", x.make(3, 2, 1, 3));
        num(x, 3, 1, 2, 3);
        yes("by itself", x.make(3, 3, 3, 3));
        num(x, 3, 1, 0, 1);
        yes("less itself", x.make(3, 3, 3, 1));
        num(x, 3, 0, 0, 1);
        no("by 0", x.make(0, 1, 3, 3));
        num(x, 0, 1, 2, 3);
        yes("0 by it", x.make(3, 3, 0, 3));
        num(x, 3, 0, 0, 1);
        no("what", x.make(3, 0, 1, 4));
        no("what", x.make(3, 0, 1, -1));
        no("slot", x.make(10, 0, 1, 0));
        no("slot", x.make(-1, 0, 1, 0));
        no("none", x.make(3, 8, 1, 0));
        no("none", x.make(3, 0, 8, 0));
        no("none", x.make(3, -1, 1, 0));
        no("none", x.make(3, 0, 10, 0));
        x.number(4, 0, 65536, 1);
        no("too great", x.make(4, 4, 4, 0));
        no("too great", x.make(5, 4, 4, 2));
        num(x, 4, 0, 65536, 1);
        due("compare(5, 5)", x.compare(5, 5), 2);
        x.number(5, 1, 0, 999);
        x.number(6, 1, 0, 1000);
        no("divisor too great", x.make(7, 5, 6, 0));
        x.number(5, 65536, 65536, 1);
        x.number(6, 65535, 65536, 1000);
        no("too great", x.make(7, 5, 6, 3));
        yes("great parts that shrink", x.make(7, 5, 5, 3));
        num(x, 7, 1, 0, 1);
        yes("by 1", x.make(8, 0, 7, 3));
        num(x, 8, 1, 2, 3);
        x.number(7, 0, -1, 1);
        yes("by -x, whose norm is 1", x.make(8, 0, 7, 3));
        // 1 / x = 3 - x: (1 + 2x)(x - 3) / 3 = (2xx - 5x - 3) / 3
        num(x, 8, -5, 1, 3);
    }

    private static void part() {
        promise = 7;
        DigitBench x = new DigitBench();
        x.number(3, -4, 6, 10);
        num(x, 3, -2, 3, 5);
        none("part(3, 3)", () -> x.part(3, 3));
        none("part(3, -1)", () -> x.part(3, -1));
        none("part(4, 0)", () -> x.part(4, 0));
        none("part(-1, 0)", () -> x.part(-1, 0));
        none("part(10, 0)", () -> x.part(10, 0));
        none("part(most, most)", () -> x.part(MOST, MOST));
    }

    private static void compare() {
        promise = 8;
        DigitBench x = new DigitBench();
        x.number(0, 0, 1, 1);
        // these fractions lie on both sides of the golden mean, as near as NUMBERS come
        x.number(1, 1597, 0, 987);
        due("x and 1597/987", x.compare(0, 1), -1);
        due("turned round", x.compare(1, 0), 1);
        x.number(2, 987, 0, 610);
        due("x and 987/610", x.compare(0, 2), 1);
        due("turned round", x.compare(2, 0), -1);
        x.number(3, 2, 2, 4);
        x.number(4, 1, 1, 2);
        due("the same", x.compare(3, 4), 0);
        x.number(5, -65536, 40503, 1000);
        x.number(6, -65535, 40503, 999);
        due("near 0, below", x.compare(5, 6), -1);
        due("none", x.compare(9, 0), 2);
        due("none", x.compare(0, -1), 2);
        due("none", x.compare(10, 10), 2);
    }

    private static void floor() {
        promise = 9;
        DigitBench x = new DigitBench();
        x.number(0, 65536, 65536, 1);
        due("floor", x.floor(0), 171575);
        x.number(0, -65536, -65536, 1);
        due("floor", x.floor(0), -171576);
        x.number(0, -3, 0, 1);
        due("floor", x.floor(0), -3);
        x.number(0, -7, 0, 2);
        due("floor", x.floor(0), -4);
        x.number(0, 7, 0, 2);
        due("floor", x.floor(0), 3);
        x.number(0, -1, 1, 1000);
        due("floor", x.floor(0), 0);
        x.number(0, 1, -1, 1000);
        due("floor", x.floor(0), -1);
        x.number(0, 46368, -28657, 1);
        due("just below 0", x.floor(0), -1);
        x.number(0, -46368, 28657, 1);
        due("just above 0", x.floor(0), 0);
        x.number(0, 0, 0, 1);
        due("floor", x.floor(0), 0);
        none("floor(1)", () -> x.floor(1));
        none("floor(-1)", () -> x.floor(-1));
        none("floor(10)", () -> x.floor(10));
        DigitBench y = at(9, 9);
        y.number(0, 65536, 65536, 1);
        // x = (9 + root of 117) / 2 = 9.908326913..
        due("floor", y.floor(0), 714888);
    }

    private static void digits() {
        promise = 10;
        DigitBench x = new DigitBench();
        due("digits(0)", x.digits(0), NONE);
        x.number(0, 5, 0, 1);
        due("5", x.digits(0), 0);
        told(x, 3, 4, 0);
        x.number(1, -1, 0, 1);
        due("below 0", x.digits(1), NONE);
        due("no slot", x.digits(-1), NONE);
        due("no slot", x.digits(10), NONE);
        told(x, 3, 4, 0);
        x.number(1, 0, 0, 1);
        due("0", x.digits(1), 0);
        told(x, 0, 0, 0);
        x.number(1, 1, 0, 2);
        due("1/2", x.digits(1), 1);
        told(x, 0, 0, 3);
        // 1/175 comes back just at place 400, 1/1000 has not by then.
        x.number(1, 1, 0, 175);
        due("1/175", x.digits(1), 1);
        told(x, 0, 0, 400);
        x.number(1, 1, 0, 1000);
        due("1/1000", x.digits(1), 2);
        told(x, 0, 400, 0);
        x.number(1, 0, 1, 1);
        due("x", x.digits(1), 0);
        told(x, 1, 0, 0);
        // x - 2 is 0.6180.., and 1 / (x - 1) too: 0.(1)
        DigitBench y = at(3, -1);
        y.number(0, -2, 1, 1);
        due("x - 2", y.digits(0), 1);
        told(y, 0, 0, 1);
        due("digit(-1)", y.digit(-1), 1);
    }

    private static void told() {
        promise = 11;
        DigitBench x = new DigitBench();
        for (int what = 0; what < 3; what++) due("told", x.told(what), NONE);
        x.number(0, 7, 0, 2);
        due("7/2", x.digits(0), 1);
        for (int what : new int[] {-1, 3, LEAST, MOST}) due("told(" + what + ")", x.told(what), NONE);
        due("told(0)", x.told(0), 2);
        DigitBench y = at(4, -1);
        y.number(0, 1, 0, 397);
        due("1/397", y.digits(0), 2);
        told(y, 0, 400, 0);
        y.number(0, 65536, 65536, 1);
        y.digits(0);
        due("told(0)", y.told(0), 9);
        DigitBench z = at(5, 4);
        z.number(0, 1, 0, 797);
        due("1/797", z.digits(0), 1);
        told(z, 0, 1, 398);
    }

    private static void digit() {
        promise = 12;
        DigitBench x = new DigitBench();
        due("digit(0)", x.digit(0), NONE);
        due("digit(5)", x.digit(5), NONE);
        x.number(0, 1, 0, 2);
        x.digits(0);
        for (int k = -300; k < 0; k++) due("digit(" + k + ")", x.digit(k), Math.floorMod(k, 3) == 1 ? 1 : 0);
        due("digit(least)", x.digit(LEAST), Math.floorMod(LEAST, 3) == 1 ? 1 : 0);
        due("digit(most)", x.digit(MOST), 0);
        x.number(0, 4, 0, 1);
        x.digits(0);
        // 4 = x^2 + 1 + x^-2
        int[] four = {1, 0, 1, 0, 1};
        for (int i = 0; i < 5; i++) due("digit(" + (2 - i) + ")", x.digit(2 - i), four[i]);
        due("above", x.digit(3), 0);
        due("behind the end", x.digit(-3), 0);
        due("behind the end", x.digit(LEAST), 0);
        x.number(0, 1, 0, 1000);
        x.digits(0);
        due("neither, above", x.digit(1), 0);
        due("neither, at the point", x.digit(0), 0);
        yes("neither, place 400", x.digit(-400) >= 0);
        due("neither, place 401", x.digit(-401), NONE);
        due("neither, far", x.digit(LEAST), NONE);
    }

    private static void value() {
        promise = 13;
        DigitBench x = new DigitBench();
        tape(x, 1, 2, -3, 4);
        yes("value", x.value(0, 2, 0));
        // x + 2 - 3 (x - 1) + 4 (2 - x) = 13 - 6x
        num(x, 0, 13, -6, 1);
        due("count(4)", x.count(4), 0);
        tape(x, -128, 127);
        yes("value", x.value(0, 0, 0));
        num(x, 0, 127, -128, 1);
        yes("empty", x.value(0, 0, 0));
        num(x, 0, 0, 0, 1);
        int[][] bad = {{-1, 0}, {3, 0}, {LEAST, 0}, {MOST, MOST}, {2, 3}, {1, -1}, {0, 1}};
        x.number(0, 5, 5, 7);
        for (int[] pr : bad) {
            tape(x, 1, 1);
            no("value " + pr[0] + " " + pr[1], x.value(0, pr[0], pr[1]));
            due("count(4)", x.count(4), 0);
        }
        tape(x, 1, 1);
        no("slot", x.value(10, 0, 0));
        due("count(4)", x.count(4), 0);
        tape(x, 1);
        no("slot", x.value(-1, 0, 0));
        num(x, 0, 5, 5, 7);
        valueOfRounds(x);
        valueRefused();
    }

    private static void valueOfRounds(DigitBench x) {
        tape(x, 1, 0);
        yes("0.(10)", x.value(0, 2, 2));
        num(x, 0, 1, 0, 1);
        tape(x, 1, 0, 0, 1, 0);
        yes("10.(010)", x.value(0, 3, 3));
        num(x, 0, 1, 2, 2);
        tape(x, 1, 0, 1, 0);
        yes("1.0(10)", x.value(0, 3, 2));
        // 1 + 1/x = x
        num(x, 0, 0, 1, 1);
        DigitBench y = at(3, -1);
        tape(y, 2, 1);
        yes("0.2(1) is 1", y.value(0, 2, 1));
        num(y, 0, 1, 0, 1);
    }

    private static void valueRefused() {
        DigitBench x = new DigitBench();
        // x^24 = 28657 + 46368 x is a NUMBER, x^25 = 46368 + 75025 x is none, also under a digit 0.
        int[] row = new int[25];
        row[24] = 1;
        tape(x, row);
        yes("25 places", x.value(0, 0, 0));
        row = new int[26];
        tape(x, row);
        no("26 places", x.value(0, 0, 0));
        row = new int[25];
        row[0] = 2;
        tape(x, row);
        no("2 x^24", x.value(0, 0, 0));
        row = new int[26];
        row[0] = 2;
        row[1] = -2;
        row[2] = -1;
        tape(x, row);
        no("x^25 itself is none", x.value(0, 0, 0));
        row = new int[25];
        row[0] = 2;
        row[1] = -2;
        row[2] = -1;
        tape(x, row);
        yes("what is summed up need not", x.value(0, 0, 0));
        num(x, 0, 10946, 17711, 1);
        // behind the point x^-23 = 28657 x - 46368 stands, x^-24 = 75025 - 46368 x does not
        row = new int[23];
        tape(x, row);
        yes("23 places behind", x.value(0, 23, 0));
        row = new int[24];
        tape(x, row);
        no("24 places behind", x.value(0, 24, 0));
        // a ROUND of 24: x^24 stands, of 25: x^25 does not
        row = new int[24];
        tape(x, row);
        yes("a round of 24", x.value(0, 24, 24));
        row = new int[25];
        tape(x, row);
        no("a round of 25", x.value(0, 25, 25));
        DigitBench y = at(9, 9);
        // each second power behind the point has a divisor nine times as great
        tape(y, 1);
        yes("1/x", y.value(0, 1, 0));
        num(y, 0, -9, 1, 9);
        tape(y, new int[6]);
        yes("the divisor is 729", y.value(0, 6, 0));
        tape(y, new int[7]);
        no("the divisor is 6561", y.value(0, 7, 0));
    }

    private static void allowed() {
        promise = 14;
        DigitBench x = new DigitBench();
        due("empty", x.allowed(), NONE);
        tape(x, 1, 0, 1, 0, 1, 0, 0, 1);
        due("allowed", x.allowed(), NONE);
        due("count(4)", x.count(4), 0);
        tape(x, 0, 1, 0, 1, 1);
        // from place 1: 1 0 1 1 is above 1 0 1 0
        due("allowed", x.allowed(), 1);
        tape(x, 1, 1, -1);
        due("a digit below 0", x.allowed(), -2);
        due("count(4)", x.count(4), 0);
        tape(x, -128);
        due("a digit below 0", x.allowed(), -2);
        int[] row = new int[200];
        for (int i = 0; i < 200; i += 2) row[i] = 1;
        tape(x, row);
        due("200 digits of the bar", x.allowed(), NONE);
        row[199] = 1;
        tape(x, row);
        due("the last is above", x.allowed(), 0);
        row[0] = 0;
        tape(x, row);
        due("the last is above", x.allowed(), 2);
        DigitBench y = at(5, -2);
        // the bar: 4, then 2 again and again
        tape(y, 4, 2, 2, 2, 2);
        due("the bar", y.allowed(), NONE);
        tape(y, 4, 2, 2, 1, 4);
        due("below it", y.allowed(), NONE);
        tape(y, 4, 2, 2, 3);
        due("above it", y.allowed(), 0);
        tape(y, 3, 4, 3);
        due("above it", y.allowed(), 1);
        tape(y, 3, 3, 5);
        due("above it", y.allowed(), 2);
        DigitBench z = at(4, 4);
        tape(z, 4, 3, 4, 3);
        due("the bar", z.allowed(), NONE);
        tape(z, 4, 3, 4, 4);
        due("above it", z.allowed(), 0);
    }

    private static void one() {
        promise = 15;
        DigitBench x = at(7, 4);
        due("one(1)", x.one(1), 7);
        due("one(2)", x.one(2), 4);
        for (int k = 3; k <= 60; k++) due("one(" + k + ")", x.one(k), 0);
        DigitBench y = at(7, -4);
        due("one(1)", y.one(1), 6);
        for (int k = 2; k <= 60; k++) due("one(" + k + ")", y.one(k), 2);
        for (int k : new int[] {0, -1, 61, LEAST, MOST}) none("one(" + k + ")", () -> y.one(k));
    }

    private static void rows() {
        promise = 16;
        DigitBench x = at(9, 9);
        due("rows(0)", x.rows(0), 1);
        due("rows(1)", x.rows(1), 10);
        due("rows(2)", x.rows(2), 99);
        due("rows(3)", x.rows(3), 981);
        due("rows(16)", x.rows(16), 8703029361715560L);
        DigitBench y = at(5, -3);
        // the bar 4 1 1 1 ..: of two digits 4 times 5 and 2
        due("rows(1)", y.rows(1), 5);
        due("rows(2)", y.rows(2), 22);
        due("rows(3)", y.rows(3), 95);
        for (int n : new int[] {-1, 17, LEAST, MOST}) none("rows(" + n + ")", () -> y.rows(n));
    }

    private static void whole() {
        promise = 17;
        DigitBench x = at(2, 1);
        int[][] first = {{0, 0}, {1, 0}, {2, 0}, {0, 1}, {1, 1}, {2, 1}, {0, 2}, {1, 2}};
        for (int n = 0; n < first.length; n++) {
            yes("whole", x.whole(0, n));
            num(x, 0, first[n][0], first[n][1], 1);
        }
        no("whole(0, -1)", x.whole(0, -1));
        no("whole(0, 50001)", x.whole(0, 50001));
        no("whole(0, least)", x.whole(0, LEAST));
        no("whole(10, 1)", x.whole(10, 1));
        no("whole(-1, 1)", x.whole(-1, 1));
        num(x, 0, 1, 2, 1);
        for (int a = 1; a <= 9; a++) {
            for (int b = -7; b <= 9; b++) {
                DigitBench y = new DigitBench();
                if (y.base(a, b)) {
                    yes("whole", y.whole(1, 50000));
                    yes("whole", y.whole(2, 49999));
                    due("compare", y.compare(1, 2), 1);
                    due("digits", y.digits(1), 0);
                    due("told(1)", y.told(1), 0);
                    due("rank", y.rank(1), 50000);
                }
            }
        }
    }

    private static void rank() {
        promise = 18;
        DigitBench x = at(3, -1);
        for (int n = 0; n < 240; n++) {
            x.whole(0, n);
            due("rank", x.rank(0), n);
        }
        x.number(0, 3, 0, 1);
        due("3 has a digit behind the point", x.rank(0), NONE);
        x.number(0, 0, 1, 2);
        due("x / 2", x.rank(0), NONE);
        x.number(0, -1, 0, 1);
        due("below 0", x.rank(0), NONE);
        x.number(0, 0, -1, 1);
        due("below 0", x.rank(0), NONE);
        due("none", x.rank(5), NONE);
        due("none", x.rank(-1), NONE);
        due("none", x.rank(10), NONE);
        DigitBench y = new DigitBench();
        y.whole(0, 50000);
        y.whole(1, 49999);
        y.digits(1);
        int top = y.told(0);
        // the next one lies 1 or 1/x above number 50000
        y.number(2, 1, 0, 1);
        y.number(3, -1, 1, 1);
        y.make(4, 0, 2, 0);
        y.make(5, 0, 3, 0);
        due("beyond", y.rank(4), NONE);
        due("beyond", y.rank(5), NONE);
        due("told(0) stays", y.told(0), top);
        // x^24 is beyond, x^22 is not: 46368 rows of 22 digits
        y.number(6, 28657, 46368, 1);
        due("x^24", y.rank(6), NONE);
        y.number(6, 10946, 17711, 1);
        due("x^22", y.rank(6), 46368);
    }

    private static void ring() {
        promise = 19;
        DigitBench x = new DigitBench();
        for (int b = -27; b <= 27; b++) {
            boolean fine = Math.abs(b) >= 2 && Math.abs(b) <= 25;
            if (fine) {
                yes("ring", x.ring(true, LEAST, MOST, b, MOST));
                due("count(5)", x.count(5), Math.abs(b));
                due("count(6)", x.count(6), 0);
                due("count(7)", x.count(7), 1);
            } else no("ring", x.ring(true, 0, 0, b, 0));
        }
        no("ring", x.ring(true, 0, 0, LEAST, 0));
        yes("ring", x.ring(false, 1, -1, 5, 0));
        due("count(5)", x.count(5), 25);
        due("count(7)", x.count(7), 2);
        yes("ring, norm below 0", x.ring(false, 0, 9, 2, 1));
        due("count(5)", x.count(5), 5);
        yes("ring", x.ring(false, 9, -9, 0, 1));
        due("count(5)", x.count(5), 9);
        yes("ring", x.ring(false, 0, 0, 2, 100000));
        yes("ring", x.ring(false, 0, 0, 2, -100000));
        due("count(5)", x.count(5), 4);
        int[][] bad = {{10, 0, 2, 0}, {-10, 0, 2, 0}, {0, 10, 2, 0}, {0, -10, 2, 0}, {0, 0, 2, 100001}, {0, 0, 2, -100001},
            {0, -1, 100001, 0}, {0, -1, -100001, 0}, {0, -1, 5, 1}, {0, -1, 1, 0}, {0, -1, 0, 0}, {0, 2, 3, 2}, {LEAST, LEAST, LEAST, LEAST}};
        for (int[] n : bad) no("ring " + n[0] + " " + n[1] + " " + n[2] + " " + n[3], x.ring(false, n[0], n[1], n[2], n[3]));
        due("count(5)", x.count(5), 4);
        DigitBench y = new DigitBench();
        y.write(12, 0);
        y.rounds(3);
        yes("ring", y.ring(true, 0, 0, 3, 0));
        due("written(0) stays", y.written(0), 2);
        due("place(0) stays", y.place(0), 2);
        due("round(0, 1) stays", y.round(0, 1), -1);
        due("count(4)", y.count(4), 0);
    }

    private static void set() {
        promise = 20;
        DigitBench x = new DigitBench();
        no("empty", x.set());
        due("count(6)", x.count(6), 10);
        x.ring(true, 0, 0, 3, 0);
        tape(x, -1, 0, 1);
        yes("set", x.set());
        due("count(4)", x.count(4), 0);
        due("write(-1, 0)", x.write(-1, 0), 0);
        due("place(0)", x.place(0), 0);
        int[][] bad = {{0, 1}, {0, 1, 2, 3}, {0, 1, 1}, {0, 1, 3}, {0, 1, -2}, {}};
        for (int[] row : bad) {
            tape(x, row);
            no("set", x.set());
            due("count(4)", x.count(4), 0);
            due("count(6)", x.count(6), 3);
        }
        due("write(-1, 0)", x.write(-1, 0), 0);
        due("place(0)", x.place(0), 0);
        tape(x, -128, 125, 126);
        yes("set", x.set());
        // B = 1 + 2 w with w w = -1: (2, -1) and (1, 2) are multiples of it
        x.ring(false, 0, -1, 1, 2);
        tape(x, 0, 0, 1, 0, 0, 1, -1, 0, 0, -1);
        yes("set", x.set());
        tape(x, 0, 0, 1, 0, 2, 0, 3, 0, 1, 2);
        no("set", x.set());
        tape(x, 0, 0, 1, 0, 2, 0, 3, 0, 4);
        no("half a digit", x.set());
        tape(x, 0, 0, 1, 0, 2, 0, 3, 0);
        no("one too few", x.set());
        due("write(0, -1)", x.write(0, -1), 0);
        due("place(0)", x.place(0), 4);
        // B = 2 + 0 w: differences of odd parts are none, by the ring of two parts
        x.ring(false, 0, 0, 2, 0);
        tape(x, 0, 0, 1, 0, 0, 1, 1, 1);
        yes("set", x.set());
        tape(x, 0, 0, 1, 0, 2, 0, 3, 0);
        no("set", x.set());
    }

    private static void write() {
        promise = 21;
        DigitBench x = new DigitBench();
        due("write", x.write(100000, LEAST), 0);
        due("written(0)", x.written(0), 6);
        due("write", x.write(-100000, MOST), 1);
        due("write", x.write(100001, 0), NONE);
        due("write", x.write(-100001, 0), NONE);
        due("write", x.write(LEAST, 0), NONE);
        x.ring(false, 0, 2, 0, 1);
        due("no set", x.write(1, 1), NONE);
        tape(x, 0, 0, 1, 0);
        x.set();
        due("write", x.write(100001, 0), NONE);
        due("write", x.write(0, -100001), NONE);
        // w w = 2: w's powers end each whole number above 0 as base 2 does
        due("write", x.write(5, 0), 0);
        due("written(0)", x.written(0), 5);
        due("write", x.write(-1, 0), 1);
        writeLost();
    }

    private static void writeLost() {
        DigitBench x = new DigitBench();
        // B = 2 + 100000 w, w w = 0: 4, 2 - 100000 w, 1 - 100000 w, -50000 w, .. -2 w, -w, -w
        x.ring(false, 0, 0, 2, 100000);
        tape(x, 0, 0, 1, 0, 0, 1, 1, 1);
        yes("set", x.set());
        due("write(4, 0)", x.write(4, 0), 1);
        due("written(0)", x.written(0), 19);
        due("written(1)", x.written(1), 1);
        // These were found by search: ways that come just at the edge of 300 steps, and one behind it.
        x.ring(false, 1, -3, 1, -1);
        tape(x, 73, -113, -31, -19, 66, 66);
        yes("set", x.set());
        due("ends by 300 steps", x.write(3, 10), 0);
        due("written(0)", x.written(0), 300);
        yes("place(299)", x.place(299) >= 0);
        due("place(300)", x.place(300), NONE);
        x.ring(false, 0, -1, -1, -1);
        tape(x, 108, -113, -42, 12);
        yes("set", x.set());
        due("a round of 300", x.write(1, -4), 1);
        due("written(0)", x.written(0), 0);
        due("written(1)", x.written(1), 300);
        yes("place(299)", x.place(299) >= 0);
        due("place(300)", x.place(300), NONE);
        x.ring(false, 2, -4, -1, 1);
        tape(x, 33, 107, 126, -83, 30, -117);
        yes("set", x.set());
        due("a round met behind 268, of 33: lost", x.write(5, 7), 2);
        due("written(0)", x.written(0), 300);
        due("written(1)", x.written(1), 0);
        due("place(300)", x.place(300), NONE);
        lostFarAway();
    }

    private static void lostFarAway() {
        DigitBench x = new DigitBench();
        // w w = 2, B = 10 + 7 w: with the other root it is below 1, and what it divides grows
        yes("ring", x.ring(false, 0, 2, 10, 7));
        due("count(5)", x.count(5), 2);
        tape(x, 0, 0, 1, 0);
        yes("set", x.set());
        due("lost", x.write(1000, 0), 2);
        // 1000 -> by (10 - 7 w) / 2: 5000 - 3500 w -> 49500 - 35000 w -> 492500 .. -> beyond
        due("written(0)", x.written(0), 4);
        due("place(3)", x.place(3), 0);
        due("place(4)", x.place(4), NONE);
        due("written(1)", x.written(1), 0);
        // y of its NEXT is 5 y - 7 z: 1000000 is not beyond, 1000001 is
        due("lost a step later", x.write(99998, -71430), 2);
        due("written(0)", x.written(0), 2);
        due("lost at once", x.write(99994, -71433), 2);
        due("written(0)", x.written(0), 1);
        due("lost a step later", x.write(-99998, 71430), 2);
        due("written(0)", x.written(0), 2);
        due("lost at once", x.write(-99994, 71433), 2);
        due("written(0)", x.written(0), 1);
        // w w = 0, B = 2 -/+ 100000 w: 40 goes to 20 +/- 1000000 w, 40 +/- 2 w to a w beyond
        for (int sign = -1; sign <= 1; sign += 2) {
            x.ring(false, 0, 0, 2, -100000 * sign);
            tape(x, 0, 0, 1, 0, 0, 1, 1, 1);
            x.set();
            due("write(40, 0)", x.write(40, 0), sign > 0 ? 0 : 1);
            due("lost at once", x.write(40, 2 * sign), 2);
            due("written(0)", x.written(0), 1);
        }
    }

    private static void written() {
        promise = 22;
        DigitBench x = new DigitBench();
        due("written(0)", x.written(0), NONE);
        due("written(1)", x.written(1), NONE);
        x.write(405, 0);
        due("written(0)", x.written(0), 3);
        due("written(1)", x.written(1), 0);
        for (int what : new int[] {-1, 2, LEAST, MOST}) due("written(" + what + ")", x.written(what), NONE);
        x.write(100001, 0);
        due("written(0)", x.written(0), 3);
        x.rounds(10);
        x.ending(10);
        due("written(0)", x.written(0), 3);
        x.ring(true, 0, 0, 2, 0);
        tape(x, 0, 5);
        x.set();
        // 1 -> (1 - 5)/2 = -2 -> -1 -> -3 -> -4 -> -2
        due("write", x.write(1, 0), 1);
        due("written(0)", x.written(0), 1);
        due("written(1)", x.written(1), 4);
    }

    private static void place() {
        promise = 23;
        DigitBench x = new DigitBench();
        for (int k : new int[] {0, 1, -1, 299}) due("place", x.place(k), NONE);
        x.ring(true, 0, 0, 2, 0);
        tape(x, 5, 0);
        x.set();
        x.write(1, 0);
        int[] due = {0, 1, 0, 0, 1};
        for (int k = 0; k < 5; k++) due("place(" + k + ")", x.place(k), due[k]);
        for (int k : new int[] {5, -1, LEAST, MOST, 300}) due("place(" + k + ")", x.place(k), NONE);
        x.write(0, 0);
        due("place(0) of 0", x.place(0), NONE);
        // 0 is no digit: 0 ends at once all the same, and 2 = 0 + 2 * 1, 1 = 1 + 2 * 0
        tape(x, 1, 2);
        x.set();
        due("write(0, 0)", x.write(0, 0), 0);
        due("written(0)", x.written(0), 0);
        due("write(2, 0)", x.write(2, 0), 0);
        due("written(0)", x.written(0), 1);
        due("place(0)", x.place(0), 1);
    }

    private static void rounds() {
        promise = 24;
        DigitBench x = new DigitBench();
        due("rounds(0)", x.rounds(0), 0);
        due("rounds(1)", x.rounds(1), 1);
        x.ring(true, 0, 0, 3, 0);
        due("no set", x.rounds(1), NONE);
        tape(x, 0, 1, -1);
        x.set();
        due("rounds(10)", x.rounds(10), 0);
        for (int r : new int[] {-1, 11, LEAST, MOST}) due("rounds(" + r + ")", x.rounds(r), NONE);
        x.ring(true, 0, 0, 2, 0);
        tape(x, 0, 3);
        x.set();
        // -3 -> -3; -1 -> -2 -> -1; 0
        due("rounds(0)", x.rounds(0), 0);
        due("rounds(1)", x.rounds(1), 1);
        due("rounds(2)", x.rounds(2), 1);
        due("rounds(3)", x.rounds(3), 2);
        due("rounds(10)", x.rounds(10), 2);
        // of two parts by B = 2: both parts by themselves
        x.ring(false, 0, -1, 2, 0);
        tape(x, 0, 0, 1, 0, 0, 1, 1, 1);
        x.set();
        due("rounds(4)", x.rounds(4), 3);
    }

    private static void round() {
        promise = 25;
        DigitBench x = new DigitBench();
        none("round(0, 0)", () -> x.round(0, 0));
        x.ring(true, 0, 0, 2, 0);
        tape(x, 0, 3);
        x.set();
        due("rounds(3)", x.rounds(3), 2);
        int[][] two = {{1, -3, 0}, {2, -2, 0}};
        for (int k = 0; k < 2; k++) for (int what = 0; what < 3; what++) due("round " + k + " " + what, x.round(k, what), two[k][what]);
        none("round(2, 0)", () -> x.round(2, 0));
        none("round(-1, 0)", () -> x.round(-1, 0));
        none("round(0, 3)", () -> x.round(0, 3));
        none("round(0, -1)", () -> x.round(0, -1));
        none("round(most, least)", () -> x.round(MOST, LEAST));
        due("rounds(11)", x.rounds(11), NONE);
        due("ending(0)", x.ending(0), 1);
        due("round(1, 1) stays", x.round(1, 1), -2);
        x.ring(false, 0, -1, 2, 0);
        due("rounds, no set", x.rounds(1), NONE);
        due("round(1, 1) stays", x.round(1, 1), -2);
        tape(x, 0, 0, 1, 0, 0, 1, 1, 1);
        x.set();
        due("rounds(4)", x.rounds(4), 3);
        int[][] three = {{1, -1, -1}, {1, -1, 0}, {1, 0, -1}};
        for (int k = 0; k < 3; k++) for (int what = 0; what < 3; what++) due("round " + k + " " + what, x.round(k, what), three[k][what]);
        // one is LOST: the rounds told before stay
        x.ring(false, 0, 2, 10, 7);
        tape(x, 0, 0, 1, 0);
        x.set();
        due("rounds(10)", x.rounds(10), NONE);
        due("ending(10)", x.ending(10), NONE);
        due("round(2, 2) stays", x.round(2, 2), -1);
        due("rounds(0)", x.rounds(0), 0);
        none("round(0, 0)", () -> x.round(0, 0));
    }

    private static void ending() {
        promise = 26;
        DigitBench x = new DigitBench();
        due("ending(0)", x.ending(0), 1);
        due("ending(10)", x.ending(10), 11);
        for (int r : new int[] {-1, 11, LEAST, MOST}) due("ending(" + r + ")", x.ending(r), NONE);
        x.ring(false, 0, -1, -2, 1);
        due("no set", x.ending(1), NONE);
        tape(x, 0, 0, 1, 0, 2, 0, 3, 0, 4, 0);
        x.set();
        due("all end", x.ending(10), 441);
        due("rounds(10)", x.rounds(10), 0);
        x.ring(false, 0, -1, 2, 0);
        tape(x, 0, 0, 1, 0, 0, 1, 1, 1);
        x.set();
        due("a quarter", x.ending(4), 25);
        x.ring(true, 0, 0, 2, 0);
        tape(x, 1, 2);
        x.set();
        due("0, and each above", x.ending(3), 4);
    }

    private static void count() {
        promise = 27;
        DigitBench x = at(8, -5);
        x.number(1, 1, 0, 1);
        x.number(1, 2, 0, 1);
        x.number(7, 0, 0, 1);
        x.number(8, 70000, 0, 1);
        x.feed(0, 0, 0, 0, 0);
        x.ring(false, 1, 1, 4, 1);
        int[] due = {8, -5, 7, 2, 20, 19, 0, 2};
        for (int what = 0; what < due.length; what++) due("count(" + what + ")", x.count(what), due[what]);
        for (int what : new int[] {-1, 8, LEAST, MOST}) due("count(" + what + ")", x.count(what), NONE);
        due("TOP of 8, 5", at(8, 5).count(2), 8);
    }

    public static void main(String[] args) {
        newObject();
        feed();
        end();
        base();
        number();
        make();
        part();
        compare();
        floor();
        digits();
        told();
        digit();
        value();
        allowed();
        one();
        rows();
        whole();
        rank();
        ring();
        set();
        write();
        written();
        place();
        rounds();
        round();
        ending();
        count();
        System.out.println(wrong == 0 ? "all promises hold" : wrong + " answers are not as due");
        if (wrong != 0) System.exit(1);
    }
}
