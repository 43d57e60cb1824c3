/** Boundary cases of promises 19 to 27: rings, their SETS, what is written by them, and the counts. */
public final class EdgesOfRingsTest {
    private static final int NONE = Edges.NONE;
    private static final int LEAST = Edges.LEAST;
    private static final int MOST = Edges.MOST;

    private static void becomes(DigitBench x, int norm, int parts, int p, int q, int y, int z) {
        boolean one = parts == 1;
        Edges.yes("ring(" + one + ", " + p + ", " + q + ", " + y + ", " + z + ")", x.ring(one, p, q, y, z));
        Edges.due("count(5)", x.count(5), norm);
        Edges.due("count(6)", x.count(6), 0);
        Edges.due("count(7)", x.count(7), parts);
    }

    /** Refused, and by the ring and the SET that there are 12 is still 2 1. */
    private static void isNone(boolean one, int p, int q, int y, int z) {
        DigitBench x = Edges.used();
        Edges.refused(x, "ring(" + one + ", " + p + ", " + q + ", " + y + ", " + z + ")", b -> b.ring(one, p, q, y, z));
        Edges.wrote(x, 12, 0, 0, 2, 0);
        Edges.due("place(0)", x.place(0), 2);
    }

    private static void ring() {
        Edges.edge(19, "The ring of one part, B = b (2 to 25 without its sign)", () -> {
            for (int y = 2; y <= 25; y++) {
                becomes(new DigitBench(), y, 1, 0, 0, y, 0);
                becomes(new DigitBench(), y, 1, 0, 0, -y, 0);
            }
            for (int y : new int[] {0, 1, -1, 26, -26, LEAST, MOST, LEAST + 2, 1 << 16}) isNone(true, 0, 0, y, 5);
        });
        Edges.edge(19, "(one: of one part, B = y, the others are nothing", () -> {
            becomes(new DigitBench(), 3, 1, LEAST, MOST, 3, LEAST);
            becomes(new DigitBench(), 3, 1, 10, -10, -3, 100001);
            isNone(true, 3, 3, 1, 3);
        });
        Edges.edge(19, "w w = p w + q (p, q -9 to 9)", () -> {
            for (int n : new int[] {9, -9}) {
                becomes(new DigitBench(), 4, 2, n, 0, 2, 0);
                becomes(new DigitBench(), 4, 2, 0, n, 2, 0);
                becomes(new DigitBench(), 4, 2, n, -n, -2, 0);
            }
            for (int n : new int[] {10, -10, LEAST, MOST}) {
                isNone(false, n, 0, 2, 0);
                isNone(false, 0, n, 2, 0);
            }
        });
        Edges.edge(19, "of two, y and z are -100000 to 100000.)", () -> {
            // w w = 2 w - 1 or -2 w - 1: the NORM is (y + z)^2 or (y - z)^2
            for (int sign = -1; sign <= 1; sign += 2) {
                becomes(new DigitBench(), 4, 2, -2, -1, 100000 * sign, 99998 * sign);
                becomes(new DigitBench(), 4, 2, 2, -1, 99998 * sign, -100000 * sign);
                isNone(false, -2, -1, 100001 * sign, 99999 * sign);
                isNone(false, -2, -1, 99999 * sign, 100001 * sign);
                isNone(false, 2, -1, 100001 * sign, -99999 * sign);
                isNone(false, 2, -1, 99999 * sign, -100001 * sign);
            }
            for (int far : new int[] {LEAST, MOST}) {
                isNone(false, 0, 0, 2, far);
                isNone(false, 0, -1, far, 0);
                isNone(false, -2, -1, far, far);
            }
        });
        Edges.edge(19, "of two y y + p y z - q z z of B without its sign: from 2 to 25", () -> {
            int[][] good = {{2, 0, -1, 1, 1}, {25, 0, -1, 3, -4}, {25, 1, -1, -5, 0}, {2, 0, 2, 0, 1}, {25, 0, 2, 5, 5}, {5, 0, 9, 2, 1}, {9, 9, -9, 0, 1},
                {19, 1, 1, 61495, 99501}, {11, 2, 2, 73137, 99907}};
            for (int[] n : good) becomes(new DigitBench(), n[0], 2, n[1], n[2], n[3], n[4]);
            // 0, 1, -1, 26, -26
            int[][] bad = {{0, -1, 0, 0}, {0, 0, 0, 7}, {0, -1, 1, 0}, {0, -1, 0, -1}, {0, 2, 1, 1}, {0, -1, 5, 1}, {0, -1, 1, -5}, {0, 3, 1, 3}};
            for (int[] n : bad) isNone(false, n[0], n[1], n[2], n[3]);
            // found by search: the int that is left of these NORMS would be 16, 4, -5
            int[][] wrapped = {{5, 0, 71956, -74080}, {-6, 0, -9966, -73488}, {5, -5, 47658, -83407}, {0, -1, 65536, 0}, {0, -1, 100000, 100000}};
            for (int[] n : wrapped) isNone(false, n[0], n[1], n[2], n[3]);
        });
        Edges.edge(19, "its SET has no digits yet", () -> {
            for (int n = 0; n < 3; n++) {
                DigitBench x = new DigitBench();
                Edges.yes("ring", n == 0 ? x.ring(true, 0, 0, 10, 0) : n == 1 ? x.ring(true, 0, 0, -2, 0) : x.ring(false, 0, -1, -1, 1));
                Edges.due("count(6)", x.count(6), 0);
                Edges.none("write(1, 0)", x.write(1, 0));
                Edges.none("write(0, 0)", x.write(0, 0));
                Edges.none("rounds(0)", x.rounds(0));
                Edges.none("ending(0)", x.ending(0));
            }
        });
    }

    /** set() is refused; the tape is empty then, and -1 is written by the SET -1 0 1 that there was. */
    private static void keepsSet(int... row) {
        DigitBench x = Edges.ringOfOne(3, -1, 0, 1);
        Edges.tape(x, row);
        Edges.no("set()", x.set());
        Edges.due("count(4)", x.count(4), 0);
        Edges.due("count(6)", x.count(6), 3);
        int[] place = {0, 2};
        for (int n = 0; n < 2; n++) {
            Edges.wrote(x, 2 * n - 1, 0, 0, 1, 0);
            Edges.due("place(0)", x.place(0), place[n]);
        }
    }

    private static void isNoSet(int p, int q, int y, int z, int... row) {
        DigitBench x = new DigitBench();
        Edges.yes("ring", x.ring(false, p, q, y, z));
        Edges.tape(x, row);
        Edges.no("set()", x.set());
        Edges.due("count(4)", x.count(4), 0);
        Edges.due("count(6)", x.count(6), 0);
        Edges.none("write(1, 1)", x.write(1, 1));
    }

    private static void set() {
        Edges.edge(20, "false, and there is the SET that there was, if they are not NORM", () -> {
            keepsSet();
            keepsSet(0, 1);
            keepsSet(0, 1, 2, 4);
            keepsSet(0, 1, 2, 3, 4, 5);
            keepsSet(new int[200]);
            // of two parts it takes 2 NORM bytes, neither half a digit less nor more
            isNoSet(0, -1, 1, 2);
            isNoSet(0, -1, 1, 2, 0, 1, 2, 3, 4);
            isNoSet(0, -1, 1, 2, 0, 0, 1, 0, 2, 0, 3, 0);
            isNoSet(0, -1, 1, 2, 0, 0, 1, 0, 2, 0, 3, 0, 4);
            isNoSet(0, -1, 1, 2, 0, 0, 1, 0, 2, 0, 3, 0, 4, 0, 0);
            isNoSet(0, -1, 1, 2, 0, 0, 1, 0, 2, 0, 3, 0, 4, 0, 5, 0);
            Edges.due("count(6)", Edges.ringOfTwo(0, -1, 1, 2, 0, 0, 1, 0, 2, 0, 3, 0, 4, 0).count(6), 5);
            Edges.due("count(6)", Edges.ringOfOne(2, 0, 1).count(6), 2);
            int[] all = new int[50];
            for (int i = 0; i < 25; i++) { all[2 * i] = i % 5; all[2 * i + 1] = -i / 5; }
            Edges.due("count(6)", Edges.ringOfTwo(0, -1, 5, 0, all).count(6), 25);
        });
        Edges.edge(20, "or two differ by a multiple of B", () -> {
            keepsSet(0, 1, 1);
            keepsSet(0, 0, 1);
            keepsSet(0, 1, 3);
            keepsSet(0, 1, -2);
            keepsSet(-128, 127, 0);
            Edges.due("count(6)", Edges.ringOfOne(3, -128, 126, 2).count(6), 3);
            // B = 1 + 2 w, w w = -1: 1 + 2 w and 2 - w are multiples of it, 1 - 2 w and 2 + w are none
            isNoSet(0, -1, 1, 2, 0, 0, 1, 0, 2, 0, 3, 0, 1, 2);
            isNoSet(0, -1, 1, 2, 0, 0, 1, 0, 2, 0, 3, 0, 2, -1);
            isNoSet(0, -1, 1, 2, 0, 0, 1, 0, 2, 0, 3, 0, 3, 0);
            isNoSet(0, -1, 1, 2, 0, 0, 1, 0, 2, 0, 3, 0, 5, 0);
            Edges.due("count(6)", Edges.ringOfTwo(0, -1, 1, 2, 0, 0, 1, -2, 2, 1, 1, 0, 3, 0).count(6), 5);
            // B = 2 goes into a difference of 2 or of 2 w, though its NORM 4 does not
            isNoSet(0, -1, 2, 0, 0, 0, 1, 0, 2, 0, 3, 0);
            isNoSet(0, -1, 2, 0, 0, 0, 1, 0, 0, 1, 0, 3);
            Edges.due("count(6)", Edges.ringOfTwo(0, -1, 2, 0, 0, 0, 1, 0, 0, 1, 1, 1).count(6), 4);
        });
        Edges.edge(20, "The tape's bytes (with their signs; empty then) are the SET's digits, of two parts y, z each", () -> {
            DigitBench x = Edges.ringOfOne(2, -128, 127);
            Edges.due("count(4)", x.count(4), 0);
            Edges.wrote(x, -128, 0, 0, 1, 0);
            Edges.wrote(x, 127, 0, 0, 1, 0);
            Edges.due("place(0)", x.place(0), 1);
            DigitBench y = Edges.ringOfTwo(0, -1, -1, 1, 0, 0, -127, 126);
            Edges.due("count(4)", y.count(4), 0);
            Edges.wrote(y, -127, 126, 0, 1, 0);
            Edges.due("place(0)", y.place(0), 1);
        });
    }

    private static void write() {
        Edges.edge(21, "NONE: no SET", () -> {
            DigitBench x = Edges.used();
            x.ring(true, 0, 0, 7, 0);
            Edges.nothing(x, "write(1, 0)", b -> b.write(1, 0));
            Edges.nothing(x, "write(0, 0)", b -> b.write(0, 0));
        });
        Edges.edge(21, "or a part beyond -100000 .. 100000", () -> {
            DigitBench x = new DigitBench();
            Edges.wrote(x, 100000, 0, 0, 6, 0);
            // -100000 is ... 9 9 9 0 0 0 0 0
            Edges.wrote(x, -100000, 0, 1, 5, 1);
            for (int y : new int[] {100001, -100001, LEAST, MOST}) Edges.nothing("write(" + y + ", 0)", b -> b.write(y, 0));
            int[][] good = {{100000, 100000}, {-100000, 100000}, {100000, -100000}, {-100000, -100000}};
            for (int[] n : good) Edges.due("write", Edges.ringOfTwo(0, -1, -1, 1, 0, 0, 1, 0).write(n[0], n[1]), 0);
            int[][] bad = {{100001, 0}, {-100001, 0}, {0, 100001}, {0, -100001}, {LEAST, LEAST}, {0, LEAST}, {0, MOST}};
            for (int[] n : bad) {
                DigitBench y = Edges.ringOfTwo(0, -1, -1, 1, 0, 0, 1, 0);
                Edges.wrote(y, 2, 0, 0, 4, 0);
                Edges.nothing(y, "write(" + n[0] + ", " + n[1] + ")", b -> b.write(n[0], n[1]));
            }
        });
        Edges.edge(21, "(of one part: y, z nothing)", () -> {
            DigitBench x = new DigitBench();
            for (int z : new int[] {0, 7, 100001, LEAST, MOST}) {
                Edges.wrote(x, 123, z, 0, 3, 0);
                Edges.due("place(2)", x.place(2), 1);
            }
            // behind a ring of two parts, too
            x.ring(false, 0, -1, -1, 1);
            x.ring(true, 0, 0, 10, 0);
            Edges.tape(x, 0, 1, 2, 3, 4, 5, 6, 7, 8, 9);
            x.set();
            Edges.wrote(x, 123, MOST, 0, 3, 0);
        });
        Edges.edge(21, "(0 itself does so at once)", () -> {
            Edges.wrote(new DigitBench(), 0, 9, 0, 0, 0);
            // 0 is no digit of these
            Edges.wrote(Edges.ringOfOne(2, 1, 2), 0, 0, 0, 0, 0);
            Edges.wrote(Edges.ringOfOne(2, 1, 2), 2, 0, 0, 1, 0);
            Edges.wrote(Edges.ringOfTwo(0, -1, -1, 1, 1, 0, 2, 0), 0, 0, 0, 0, 0);
        });
        Edges.edge(21, "else a ROUND is met: members that lead to one another", () -> {
            Edges.wrote(new DigitBench(), -1, 0, 1, 0, 1);
            Edges.wrote(new DigitBench(), -12, 0, 1, 2, 1);
            // -1 -> -2 -> -1, and -3 -> -3
            Edges.wrote(Edges.ringOfOne(2, 0, 3), -1, 0, 1, 0, 2);
            Edges.wrote(Edges.ringOfOne(2, 0, 3), -3, 0, 1, 0, 1);
        });
        lost();
    }

    private static final int[] ENDS_BY_300 = {73, -113, -31, -19, 66, 66};
    private static final int[] ROUND_OF_300 = {108, -113, -42, 12};

    private static void lost() {
        Edges.edge(21, "it is LOST, where neither comes by 300 steps", () -> {
            // found by search: 3 + 10 w ENDS by 300 steps; it is the NEXT of 106 - 116 w, 2 - 22 w, 99 + 63 w
            Edges.wrote(Edges.ringOfTwo(1, -3, 1, -1, ENDS_BY_300), 3, 10, 0, 300, 0);
            Edges.wrote(Edges.ringOfTwo(1, -3, 1, -1, ENDS_BY_300), 106, -116, 2, 300, 0);
            Edges.wrote(Edges.ringOfTwo(1, -3, 1, -1, ENDS_BY_300), 2, -22, 2, 300, 0);
            Edges.wrote(Edges.ringOfTwo(1, -3, 1, -1, ENDS_BY_300), 99, 63, 2, 300, 0);
            // 1 - 4 w is in a ROUND of 300, as 103 - 110 w is; it is the NEXT of -47 + 15 w, too, which is not
            Edges.wrote(Edges.ringOfTwo(0, -1, -1, -1, ROUND_OF_300), 1, -4, 1, 0, 300);
            Edges.wrote(Edges.ringOfTwo(0, -1, -1, -1, ROUND_OF_300), 103, -110, 1, 0, 300);
            Edges.wrote(Edges.ringOfTwo(0, -1, -1, -1, ROUND_OF_300), -47, 15, 2, 300, 0);
            // a ROUND of 33 behind 268
            Edges.wrote(Edges.ringOfTwo(2, -4, -1, 1, 33, 107, 126, -83, 30, -117), 5, 7, 2, 300, 0);
        });
        Edges.edge(21, "or one comes to a part beyond -1000000 .. 1000000", () -> {
            // w w = 2, B = 10 + 7 w: y of the NEXT is 5 y - 7 z, which is +/- 1000000 and +/- 1000001
            DigitBench x = Edges.ringOfTwo(0, 2, 10, 7, 0, 0, 1, 0);
            Edges.wrote(x, 99998, -71430, 2, 2, 0);
            Edges.wrote(x, 99994, -71433, 2, 1, 0);
            Edges.wrote(x, -99998, 71430, 2, 2, 0);
            Edges.wrote(x, -99994, 71433, 2, 1, 0);
            // w w = 0, B = 2 - 100000 w: the NEXT of 40 is 20 + 1000000 w, that of 40 + 2 w has a w more
            DigitBench y = Edges.ringOfTwo(0, 0, 2, -100000, 0, 0, 1, 0, 0, 1, 1, 1);
            Edges.due("write(40, 0)", y.write(40, 0), 0);
            Edges.wrote(y, 40, 2, 2, 1, 0);
            DigitBench z = Edges.ringOfTwo(0, 0, 2, 100000, 0, 0, 1, 0, 0, 1, 1, 1);
            Edges.due("write(40, 0)", z.write(40, 0), 1);
            Edges.wrote(z, 40, -2, 2, 1, 0);
        });
    }

    private static void written() {
        Edges.edge(22, "Of the latest write() that was not NONE", () -> {
            DigitBench x = new DigitBench();
            Edges.wrote(x, 405, 0, 0, 3, 0);
            Edges.none("write(100001, 0)", x.write(100001, 0));
            Edges.due("written(0)", x.written(0), 3);
            x.rounds(10);
            x.ending(10);
            Edges.due("written(0)", x.written(0), 3);
            x.ring(true, 0, 0, 3, 0);
            Edges.none("write(1, 0), no SET", x.write(1, 0));
            Edges.due("written(0)", x.written(0), 3);
            Edges.due("place(2)", x.place(2), 4);
        });
        Edges.edge(22, "0 how many digits till 0 or till the ROUND is met (till LOST)", () -> {
            Edges.wrote(new DigitBench(), 0, 0, 0, 0, 0);
            Edges.wrote(new DigitBench(), 9, 0, 0, 1, 0);
            Edges.wrote(new DigitBench(), -1, 0, 1, 0, 1);
            Edges.wrote(new DigitBench(), -10, 0, 1, 1, 1);
            // 1000 -> 5000 - 3500 w -> 49500 - 35000 w -> 492500 .. -> beyond
            Edges.wrote(Edges.ringOfTwo(0, 2, 10, 7, 0, 0, 1, 0), 1000, 0, 2, 4, 0);
        });
        Edges.edge(22, "1 how long the ROUND is (0 without one)", () -> {
            DigitBench x = Edges.ringOfOne(2, 0, 5);
            // 1 -> -2 -> -1 -> -3 -> -4 -> -2
            Edges.wrote(x, 1, 0, 1, 1, 4);
            Edges.wrote(x, 5, 0, 0, 1, 0);
        });
        Edges.edge(22, "NONE for another what, or ahead of any", () -> {
            DigitBench x = new DigitBench();
            for (int what : new int[] {0, 1, -1, 2}) Edges.none("written(" + what + ")", x.written(what));
            Edges.none("write(100001, 0)", x.write(100001, 0));
            for (int what : new int[] {0, 1}) Edges.none("written(" + what + ")", x.written(what));
            Edges.due("write(-12, 0)", x.write(-12, 0), 1);
            for (int what : new int[] {-1, 2, LEAST, MOST}) Edges.none("written(" + what + ")", x.written(what));
        });
    }

    private static void place() {
        Edges.edge(23, "in the ROUND as far as once through", () -> {
            DigitBench x = Edges.ringOfOne(2, 5, 0);
            // 1 -> -2 -> -1 -> -3 -> -4 -> -2: 5 0 5 5 0
            x.write(1, 0);
            int[] due = {0, 1, 0, 0, 1};
            for (int k = 0; k < 5; k++) Edges.due("place(" + k + ")", x.place(k), due[k]);
            for (int k : new int[] {5, 6, 299, 300, MOST}) Edges.none("place(" + k + ")", x.place(k));
        });
        Edges.edge(23, "at most 300", () -> {
            DigitBench x = Edges.ringOfTwo(1, -3, 1, -1, ENDS_BY_300);
            x.write(3, 10);
            // the last member ahead of 0 is a digit itself
            Edges.yes("place(299)", x.place(299) >= 0 && x.place(299) < 3);
            Edges.none("place(300)", x.place(300));
            x.write(106, -116);
            Edges.due("place(0)", x.place(0), 0);
            Edges.yes("place(299)", x.place(299) >= 0 && x.place(299) < 3);
            Edges.none("place(300)", x.place(300));
            DigitBench y = Edges.ringOfTwo(0, -1, -1, -1, ROUND_OF_300);
            y.write(1, -4);
            Edges.yes("place(299)", y.place(299) >= 0 && y.place(299) < 2);
            Edges.none("place(300)", y.place(300));
        });
        Edges.edge(23, "NONE without it", () -> {
            DigitBench x = new DigitBench();
            for (int k : new int[] {0, 1, -1, 299, 300, LEAST, MOST}) Edges.none("place(" + k + ")", x.place(k));
            x.write(123, 0);
            for (int k : new int[] {3, -1, 299, 300, LEAST, MOST}) Edges.none("place(" + k + ")", x.place(k));
            x.write(7, 0);
            Edges.none("place(1) of an older one", x.place(1));
            x.write(0, 0);
            Edges.none("place(0) of 0", x.place(0));
            DigitBench far = Edges.ringOfTwo(0, 2, 10, 7, 0, 0, 1, 0);
            far.write(1000, 0);
            Edges.due("place(3) of one LOST", far.place(3), 0);
            Edges.none("place(4) of one LOST", far.place(4));
        });
    }

    /** Each part goes its own way by 0 3: 0 and 3 END, -3 stays, the others come to -1 -> -2 -> -1. */
    private static DigitBench byThrees() { return Edges.ringOfTwo(0, -1, 2, 0, 0, 0, 3, 0, 0, 3, 3, 3); }

    /** w w = 8 w + 6, found by search: all members with parts -1 .. 1 END, one with a part 2 is LOST. */
    private static DigitBench soonLost() { return Edges.ringOfTwo(8, 6, 0, 1, 0, 0, 1, 1, 2, 0, -2, -1, -3, -3, -1, 0); }

    private static void rounds() {
        Edges.edge(24, "All members with parts -r .. r (r 0 to 10) are written", () -> {
            DigitBench x = Edges.ringOfOne(2, 0, 3);
            int[] due = {0, 1, 1, 2, 2, 2, 2, 2, 2, 2, 2};
            for (int r = 0; r <= 10; r++) Edges.due("rounds(" + r + ")", x.rounds(r), due[r]);
            DigitBench y = byThrees();
            Edges.due("rounds(0)", y.rounds(0), 0);
            Edges.due("rounds(2)", y.rounds(2), 4);
            Edges.due("rounds(3)", y.rounds(3), 9);
            Edges.due("rounds(10)", y.rounds(10), 9);
            // all below 0 come to -1, which stays
            Edges.due("rounds(10)", Edges.ringOfOne(2, 0, 1).rounds(10), 1);
        });
        Edges.edge(24, "An object is used for at most 512 calls after it has been made", () -> {
            DigitBench x = byThrees();
            for (int n = 0; n < 500; n++) Edges.due("rounds(10) again", x.rounds(10), 9);
            Edges.due("round(8, 2)", x.round(8, 2), -2);
        });
        Edges.edge(24, "NONE: no SET, another r", () -> {
            DigitBench x = Edges.used();
            x.ring(true, 0, 0, 3, 0);
            Edges.nothing(x, "rounds(1), no SET", b -> b.rounds(1));
            for (int r : new int[] {-1, 11, LEAST, MOST}) Edges.nothing("rounds(" + r + ")", b -> b.rounds(r));
        });
        Edges.edge(24, "or one was LOST", () -> {
            DigitBench x = soonLost();
            Edges.due("rounds(1)", x.rounds(1), 0);
            Edges.none("rounds(2)", x.rounds(2));
            Edges.none("rounds(10)", x.rounds(10));
            DigitBench y = Edges.ringOfTwo(0, 2, 10, 7, 0, 0, 1, 0);
            Edges.due("rounds(0)", y.rounds(0), 0);
            Edges.none("rounds(1)", y.rounds(1));
        });
    }

    /** rounds(r) answers so many, each with its length and its least member. */
    private static void met(DigitBench x, int r, int[][] due) {
        Edges.due("rounds(" + r + ")", x.rounds(r), due.length);
        for (int k = 0; k < due.length; k++) {
            for (int what = 0; what < 3; what++) Edges.due("round(" + k + ", " + what + ")", x.round(k, what), due[k][what]);
        }
    }

    private static void round() {
        Edges.edge(25, "(in order by their least members)", () -> {
            int[][] due = {{1, -3, -3}, {2, -3, -2}, {1, -3, 0}, {2, -2, -3}, {2, -2, -2}, {2, -2, -1}, {2, -2, 0}, {1, 0, -3}, {2, 0, -2}};
            DigitBench x = byThrees();
            for (int n = 0; n < 4; n++) met(x, 3, due);
            met(byThrees(), 10, due);
            // -10 comes to -2, then -9 to -3, which stands ahead of it
            met(Edges.ringOfOne(2, 0, 3), 10, new int[][] {{1, -3, 0}, {2, -2, 0}});
        });
        Edges.edge(25, "0 how long it is, 1, 2 y, z of its least member (by y, then by z)", () -> {
            // turned round: 3 stays, and 1 -> 2 -> 1; the least ones are above 0
            met(Edges.ringOfOne(2, 0, -3), 10, new int[][] {{2, 1, 0}, {1, 3, 0}});
            met(Edges.ringOfTwo(0, -1, 2, 0, 0, 0, -3, 0, 0, -3, -3, -3), 2, new int[][] {{2, 0, 1}, {2, 1, 0}, {2, 1, 1}, {2, 1, 2}});
            // -1 -> -3 -> -4 -> -2 -> -1: the least is in the midst
            met(Edges.ringOfOne(2, 0, 5), 1, new int[][] {{4, -4, 0}});
        });
        Edges.edge(25, "NoSuchElementException: there is none such", () -> {
            DigitBench fresh = new DigitBench();
            Edges.throwing(fresh, "round(0, 0) ahead of any", x -> x.round(0, 0));
            for (int k : new int[] {1, 2, -1, LEAST, MOST}) Edges.throwing("round(" + k + ", 0)", x -> x.round(k, 0));
            for (int what : new int[] {-1, 3, LEAST, MOST}) Edges.throwing("round(0, " + what + ")", x -> x.round(0, what));
            DigitBench nine = byThrees();
            nine.rounds(3);
            Edges.due("round(8, 1)", nine.round(8, 1), 0);
            Edges.throwing(nine, "round(9, 1)", x -> x.round(9, 1));
            nine.rounds(2);
            Edges.throwing(nine, "round(4, 1) behind fewer", x -> x.round(4, 1));
            nine.rounds(0);
            Edges.throwing(nine, "round(0, 1) behind none", x -> x.round(0, 1));
        });
        Edges.edge(25, "Of ROUND k of the latest rounds() that was not NONE", () -> {
            DigitBench x = Edges.ringOfOne(2, 0, 3);
            Edges.due("rounds(3)", x.rounds(3), 2);
            Edges.nothing(x, "rounds(11)", b -> b.rounds(11));
            Edges.due("round(1, 1)", x.round(1, 1), -2);
            Edges.due("ending(0)", x.ending(0), 1);
            Edges.due("round(0, 1)", x.round(0, 1), -3);
            Edges.due("round(1, 1)", x.round(1, 1), -2);
            x.ring(false, 8, 6, 0, 1);
            Edges.none("rounds(3), no SET", x.rounds(3));
            Edges.due("round(1, 1)", x.round(1, 1), -2);
            Edges.tape(x, 0, 0, 1, 1, 2, 0, -2, -1, -3, -3, -1, 0);
            Edges.yes("set", x.set());
            Edges.none("rounds(2), one LOST", x.rounds(2));
            Edges.due("round(0, 1)", x.round(0, 1), -3);
            Edges.due("round(1, 1)", x.round(1, 1), -2);
        });
    }

    private static void ending() {
        Edges.edge(26, "How many members with parts -r .. r END", () -> {
            DigitBench x = new DigitBench();
            for (int r = 0; r <= 10; r++) Edges.due("ending(" + r + ")", x.ending(r), r + 1);
            DigitBench y = byThrees();
            int[] due = {1, 1, 1, 4};
            for (int r = 0; r <= 3; r++) Edges.due("ending(" + r + ")", y.ending(r), due[r]);
            DigitBench z = Edges.ringOfTwo(0, -1, -1, 1, 0, 0, 1, 0);
            for (int r = 0; r <= 10; r++) Edges.due("ending(" + r + ")", z.ending(r), (2 * r + 1) * (2 * r + 1));
            Edges.due("ending(0) where 0 is no digit", Edges.ringOfOne(2, 1, 2).ending(0), 1);
        });
        Edges.edge(26, "NONE as rounds()", () -> {
            DigitBench x = Edges.used();
            x.ring(true, 0, 0, 3, 0);
            Edges.nothing(x, "ending(1), no SET", b -> b.ending(1));
            for (int r : new int[] {-1, 11, LEAST, MOST}) Edges.nothing("ending(" + r + ")", b -> b.ending(r));
            DigitBench y = soonLost();
            Edges.due("ending(1)", y.ending(1), 9);
            Edges.none("ending(2)", y.ending(2));
        });
    }

    private static void count() {
        Edges.edge(27, "0 a, 1 b, 2 TOP", () -> {
            int[][] due = {{1, 1, 1}, {9, 9, 9}, {9, -7, 8}, {3, -1, 2}, {9, 1, 9}, {9, -1, 8}};
            for (int[] n : due) for (int what = 0; what < 3; what++) Edges.due("count(" + what + ")", Edges.at(n[0], n[1]).count(what), n[what]);
        });
        Edges.edge(27, "3 NUMBERS", () -> {
            DigitBench x = new DigitBench();
            for (int s = 0; s < 10; s++) {
                Edges.due("count(3)", x.count(3), s);
                x.number(s, 0, 0, 1);
                x.number(s, 1, 0, 1);
            }
            x.number(10, 1, 0, 1);
            Edges.due("count(3)", x.count(3), 10);
        });
        Edges.edge(27, "4 bytes of the tape", () -> {
            DigitBench x = new DigitBench();
            Edges.due("count(4)", x.count(4), 0);
            for (int n = 0; n < 11; n++) x.feed(0, 0, 0, 0, 0);
            Edges.due("count(4)", x.count(4), 200);
        });
        Edges.edge(27, "5 NORM, 6 digits of the SET, 7 parts of the ring", () -> {
            int[] all = new int[25];
            for (int i = 0; i < 25; i++) all[i] = i;
            DigitBench x = Edges.ringOfOne(-25, all);
            int[] due = {25, 25, 1};
            for (int n = 0; n < 3; n++) Edges.due("count(" + (n + 5) + ")", x.count(n + 5), due[n]);
            x.ring(false, 0, 2, 0, 1);
            int[] then = {2, 0, 2};
            for (int n = 0; n < 3; n++) Edges.due("count(" + (n + 5) + ")", x.count(n + 5), then[n]);
        });
        Edges.edge(27, "NONE for another what", () -> {
            for (int what : new int[] {-1, 8, LEAST, MOST}) Edges.nothing("count(" + what + ")", x -> x.count(what));
        });
        Edges.edge(27, "A call that throws changes nothing", () -> {
            Edges.throwing("part", x -> x.part(0, 3));
            Edges.throwing("floor", x -> x.floor(1));
            Edges.throwing("one", x -> x.one(0));
            Edges.throwing("rows", x -> x.rows(17));
            Edges.throwing("round", x -> x.round(1, 0));
        });
    }

    public static void main(String[] args) {
        ring();
        set();
        write();
        written();
        place();
        rounds();
        round();
        ending();
        count();
        Edges.close(19, 27);
    }
}
