import java.io.IOException;
import java.nio.file.Files;
import java.nio.file.Path;
import java.util.NoSuchElementException;
import java.util.Set;
import java.util.TreeSet;

/** What the tests of boundary cases share: each names its promise and the document's words that it tests. */
final class Edges {
    interface Call { long on(DigitBench x); }

    interface Ask { boolean on(DigitBench x); }

    static final int NONE = DigitBench.NONE;
    static final int LEAST = Integer.MIN_VALUE;
    static final int MOST = Integer.MAX_VALUE;
    private static final long THROWN = Long.MIN_VALUE;

    private static final String DOC = document();
    private static final Set<Integer> tested = new TreeSet<>();
    private static int wrong = 0;
    private static int edges = 0;
    private static String where = "";

    private Edges() { }

    private static String document() {
        Path file = Path.of(System.getProperty("project", "."), "../shared/DOC.md");
        try {
            return oneLine(Files.readString(file));
        } catch (IOException e) {
            System.out.println("no document at " + file + ": the words of the tests are not looked up");
            return null;
        }
    }

    private static String oneLine(String text) { return text.replaceAll("\\s+", " "); }

    /** The promise's own words, or those of the terms ahead of all promises. */
    private static boolean isSaid(int promise, String words) {
        if (DOC == null) return true;
        int first = DOC.indexOf("## Promise 1:");
        int from = DOC.indexOf("## Promise " + promise + ":");
        int to = DOC.indexOf("## ", from + 2);
        if (first < 0 || from < 0 || to < 0) return false;
        return DOC.substring(from, to).contains(oneLine(words)) || DOC.substring(0, first).contains(oneLine(words));
    }

    private static void fault(String what) {
        wrong++;
        System.out.println(where + ": " + what);
    }

    /** One boundary case: the promise's number, the words that name the case, and its test. */
    static void edge(int promise, String words, Runnable test) {
        where = "promise " + promise + ", \"" + words + "\"";
        edges++;
        tested.add(promise);
        if (!isSaid(promise, words)) fault("the document does not say so");
        try {
            test.run();
        } catch (RuntimeException e) {
            fault("a call threw " + e);
        }
    }

    /** Each promise from first to last must have had an edge. */
    static void close(int first, int last) {
        for (int promise = first; promise <= last; promise++) {
            where = "promise " + promise;
            if (!tested.contains(promise)) fault("no edge is tested");
        }
        close();
    }

    static void close() {
        System.out.println(edges + " edges, " + (wrong == 0 ? "all hold" : wrong + " answers are not as due"));
        if (wrong != 0) System.exit(1);
    }

    static void due(String call, long got, long want) {
        if (got != want) fault(call + " answered " + got + ", due is " + want);
    }

    static void yes(String call, boolean got) { due(call, got ? 1 : 0, 1); }

    static void no(String call, boolean got) { due(call, got ? 1 : 0, 0); }

    static void none(String call, long got) { due(call, got, NONE); }

    /** The document wants a NoSuchElementException, and then nothing has changed. */
    static void throwing(DigitBench x, String call, Call c) {
        String before = seen(x);
        long got;
        try { got = c.on(x); } catch (NoSuchElementException e) { got = THROWN; }
        if (got != THROWN) fault(call + " answered " + got + ", due is a NoSuchElementException");
        same(call, before, seen(x));
    }

    /** The call answers false, and nothing that can be asked for has changed. */
    static void refused(DigitBench x, String call, Ask c) {
        String before = seen(x);
        no(call, c.on(x));
        same(call, before, seen(x));
    }

    /** The call answers NONE, and nothing that can be asked for has changed. */
    static void nothing(DigitBench x, String call, Call c) {
        String before = seen(x);
        none(call, c.on(x));
        same(call, before, seen(x));
    }

    static void throwing(String call, Call c) { throwing(used(), call, c); }

    static void refused(String call, Ask c) { refused(used(), call, c); }

    static void nothing(String call, Call c) { nothing(used(), call, c); }

    private static void same(String call, String before, String after) {
        if (!before.equals(after)) fault(call + " changed\n    " + before + "\n    to\n    " + after);
    }

    /** All that can be asked for without a change, by some 50 calls, where an object has 512. */
    private static String seen(DigitBench x) {
        StringBuilder all = new StringBuilder("counts");
        for (int what = 0; what < 8; what++) all.append(' ').append(x.count(what));
        all.append(", slots");
        for (int s = 0; s < 10; s++) all.append(' ').append(slot(x, s));
        all.append(", told");
        for (int what = 0; what < 3; what++) all.append(' ').append(x.told(what));
        all.append(", digits");
        for (int k = 3; k >= -5; k--) all.append(' ').append(x.digit(k));
        all.append(", written ").append(x.written(0)).append(' ').append(x.written(1)).append(", places");
        for (int k = 0; k < 5; k++) all.append(' ').append(x.place(k));
        all.append(", rounds");
        for (int k = 0; k < 2; k++) {
            for (int what = 0; what < 3; what++) all.append(' ').append(roundOf(x, k, what));
        }
        return all.toString();
    }

    private static String slot(DigitBench x, int s) {
        return x.compare(s, s) == 2 ? "-" : x.part(s, 0) + "/" + x.part(s, 1) + "/" + x.part(s, 2);
    }

    private static String roundOf(DigitBench x, int k, int what) {
        try { return "" + x.round(k, what); } catch (NoSuchElementException e) { return "-"; }
    }

    /** Three NUMBERS, digits told, 20 bytes on the tape, a member written, rounds met: much that could change. */
    static DigitBench used() {
        DigitBench x = new DigitBench();
        x.number(0, 7, 0, 2);
        x.number(4, -3, 2, 5);
        x.number(9, 1, 1, 1);
        x.digits(0);
        x.feed(0x01000100, 0, 0, 0, 0);
        x.write(-12, 0);
        x.rounds(5);
        return x;
    }

    static DigitBench at(int a, int b) {
        DigitBench x = new DigitBench();
        yes("base(" + a + ", " + b + ")", x.base(a, b));
        return x;
    }

    static DigitBench with(int a, int b, int u, int v, int d) {
        DigitBench x = at(a, b);
        yes("number(0, " + u + ", " + v + ", " + d + ")", x.number(0, u, v, d));
        return x;
    }

    /** A ring of one part with its SET. */
    static DigitBench ringOfOne(int base, int... set) {
        DigitBench x = new DigitBench();
        yes("ring(true, .., " + base + ", ..)", x.ring(true, 0, 0, base, 0));
        tape(x, set);
        yes("set()", x.set());
        return x;
    }

    /** A ring of two parts with its SET. */
    static DigitBench ringOfTwo(int p, int q, int y, int z, int... set) {
        DigitBench x = new DigitBench();
        yes("ring(false, " + p + ", " + q + ", " + y + ", " + z + ")", x.ring(false, p, q, y, z));
        tape(x, set);
        yes("set()", x.set());
        return x;
    }

    /** The tape has just these bytes then. */
    static void tape(DigitBench x, int... row) {
        x.end(0);
        for (int at = 0; at < row.length; at += 20) {
            int[] n = new int[5];
            for (int i = 0; i < 20; i++) n[i / 4] = n[i / 4] << 8 | (at + i < row.length ? row[at + i] & 255 : 0);
            x.feed(n[0], n[1], n[2], n[3], n[4]);
        }
        yes("end(" + row.length + ")", x.end(row.length));
    }

    static void num(DigitBench x, int s, int u, int v, int d) {
        due("part(" + s + ", 0)", x.part(s, 0), u);
        due("part(" + s + ", 1)", x.part(s, 1), v);
        due("part(" + s + ", 2)", x.part(s, 2), d);
    }

    static void empty(DigitBench x, int s) { due("compare(" + s + ", " + s + ")", x.compare(s, s), 2); }

    static void told(DigitBench x, int kind, int top, int ahead, int length) {
        due("digits(0)", x.digits(0), kind);
        due("told(0)", x.told(0), top);
        due("told(1)", x.told(1), ahead);
        due("told(2)", x.told(2), length);
    }

    static void wrote(DigitBench x, int y, int z, int kind, int ahead, int length) {
        String call = "write(" + y + ", " + z + ")";
        due(call, x.write(y, z), kind);
        due("written(0) of " + call, x.written(0), ahead);
        due("written(1) of " + call, x.written(1), length);
    }
}
