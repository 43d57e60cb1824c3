import java.math.BigDecimal;
import java.math.BigInteger;
import java.math.MathContext;
import java.math.RoundingMode;
import java.util.ArrayList;
import java.util.Arrays;
import java.util.HashMap;
import java.util.List;
import java.util.Map;
import java.util.NoSuchElementException;
import java.util.Random;
import java.util.TreeMap;

/** Random runs of calls on the class and on a slow model that reads the document in another way. */
public final class ModelTest {
    private static final MathContext FINE = new MathContext(120);

    /** (u + v x) / d with no limits; the reduced form is made by cut(). */
    record Q(BigInteger u, BigInteger v, BigInteger d) {
        static Q of(long u, long v, long d) {
            return new Q(BigInteger.valueOf(u), BigInteger.valueOf(v), BigInteger.valueOf(d)).cut();
        }
        Q cut() {
            BigInteger g = u.gcd(v).gcd(d);
            if (d.signum() < 0) g = g.negate();
            return new Q(u.divide(g), v.divide(g), d.divide(g));
        }
        boolean isNumber() {
            BigInteger most = BigInteger.valueOf(65536);
            return u.abs().compareTo(most) <= 0 && v.abs().compareTo(most) <= 0
                && d.compareTo(BigInteger.valueOf(1000)) <= 0;
        }
        boolean isZero() { return u.signum() == 0 && v.signum() == 0; }
    }

    static final class Refused extends RuntimeException { private static final long serialVersionUID = 1; }

    static final class Model {
        int a = 1, b = 1;
        Q[] slots = new Q[10];
        List<Integer> tape = new ArrayList<>();
        int toldKind = -1, toldTop, toldAhead, toldLength;
        Map<Integer, Integer> toldDigits = new HashMap<>();
        int parts = 1, p, q, by = 10, bz;
        int[][] set = new int[10][2];
        int wrKind = -1, wrAhead, wrLength;
        List<Integer> wrDigits = new ArrayList<>();
        List<int[]> rounds = new ArrayList<>();
        List<Q> wholes = null;
        BigDecimal known = null;

        Model() { for (int i = 0; i < 10; i++) set[i] = new int[] {i, 0}; }

        BigDecimal x() {
            if (known == null) known = BigDecimal.valueOf((long) a * a + 4L * b).sqrt(FINE).add(BigDecimal.valueOf(a)).divide(BigDecimal.valueOf(2), FINE);
            return known;
        }
        BigDecimal approx(Q n) {
            return new BigDecimal(n.v).multiply(x()).add(new BigDecimal(n.u)).divide(new BigDecimal(n.d), FINE);
        }
        int sign(Q n) { return n.isZero() ? 0 : approx(n).signum(); }
        long floorOf(Q n) {
            if (n.v.signum() == 0) {
                BigInteger[] qr = n.u.divideAndRemainder(n.d);
                return qr[1].signum() < 0 ? qr[0].longValue() - 1 : qr[0].longValue();
            }
            return approx(n).setScale(0, RoundingMode.FLOOR).longValueExact();
        }
        Q plus(Q m, Q n) { return new Q(m.u.multiply(n.d).add(n.u.multiply(m.d)), m.v.multiply(n.d).add(n.v.multiply(m.d)), m.d.multiply(n.d)).cut(); }
        Q minus(Q n) { return new Q(n.u.negate(), n.v.negate(), n.d); }
        Q times(Q m, Q n) {
            BigInteger vv = m.v.multiply(n.v);
            return new Q(m.u.multiply(n.u).add(vv.multiply(BigInteger.valueOf(b))),
                m.u.multiply(n.v).add(m.v.multiply(n.u)).add(vv.multiply(BigInteger.valueOf(a))), m.d.multiply(n.d)).cut();
        }
        /** Solves n * (s + t x) = m as two equations by Cramer's rule. */
        Q over(Q m, Q n) {
            // (n.u + n.v x)(s + t x) = n.u s + b n.v t + (n.v s + (n.u + a n.v) t) x
            BigInteger k11 = n.u, k12 = n.v.multiply(BigInteger.valueOf(b)), k21 = n.v, k22 = n.u.add(n.v.multiply(BigInteger.valueOf(a)));
            BigInteger det = k11.multiply(k22).subtract(k12.multiply(k21));
            BigInteger s = m.u.multiply(k22).subtract(k12.multiply(m.v));
            BigInteger t = k11.multiply(m.v).subtract(k21.multiply(m.u));
            return new Q(s.multiply(n.d), t.multiply(n.d), det.multiply(m.d)).cut();
        }
        Q power(int k) {
            Q one = Q.of(1, 0, 1), r = one, f = Q.of(0, 1, 1);
            for (int i = 0; i < Math.abs(k); i++) r = times(r, f);
            return k < 0 ? over(one, r) : r;
        }
        boolean slot(int s) { return s >= 0 && s <= 9; }
        boolean has(int s) { return slot(s) && slots[s] != null; }
        boolean put(int s, Q n) {
            if (!slot(s) || !n.isNumber()) return false;
            slots[s] = n;
            return true;
        }

        int feed(int... n) {
            if (tape.size() > 180) return -1;
            for (int m : n) for (byte c : BigInteger.valueOf(m & 0xFFFFFFFFL | 1L << 32).toByteArray().length == 5
                ? Arrays.copyOfRange(BigInteger.valueOf(m & 0xFFFFFFFFL | 1L << 32).toByteArray(), 1, 5) : new byte[4]) tape.add((int) c);
            return tape.size();
        }
        boolean end(int n) {
            if (n < 0 || n > tape.size()) return false;
            tape = new ArrayList<>(tape.subList(0, n));
            return true;
        }
        boolean base(int na, int nb) {
            if (na < 1 || na > 9 || nb < -8 || nb > 9 || nb == 0) return false;
            double root = Math.sqrt(Math.max(0, na * na + 4 * nb));
            if (na * na + 4 * nb < 0 || root == Math.rint(root) || Math.abs((na - root) / 2) >= 1) return false;
            a = na; b = nb; slots = new Q[10]; toldKind = -1; wholes = null; known = null;
            return true;
        }
        boolean number(int s, int u, int v, int d) { return d > 0 && put(s, Q.of(u, v, d)); }
        boolean make(int s, int i, int j, int what) {
            if (!slot(s) || !has(i) || !has(j)) return false;
            Q m = slots[i], n = slots[j];
            return switch (what) {
                case 0 -> put(s, plus(m, n));
                case 1 -> put(s, plus(m, minus(n)));
                case 2 -> put(s, times(m, n));
                case 3 -> !n.isZero() && put(s, over(m, n));
                default -> false;
            };
        }
        int part(int i, int what) {
            if (!has(i) || what < 0 || what > 2) throw new NoSuchElementException();
            Q n = slots[i];
            return (what == 0 ? n.u : what == 1 ? n.v : n.d).intValueExact();
        }
        int compare(int i, int j) { return has(i) && has(j) ? sign(plus(slots[i], minus(slots[j]))) : 2; }
        long floor(int i) {
            if (!has(i)) throw new NoSuchElementException();
            return floorOf(slots[i]);
        }
        int digits(int i) {
            if (!has(i) || sign(slots[i]) < 0) return -1;
            toldDigits.clear();
            Q left = slots[i];
            toldTop = 0;
            while (sign(plus(left, minus(power(toldTop + 1)))) >= 0) toldTop++;
            for (int k = toldTop; k >= 0; k--) {
                long c = floorOf(over(left, power(k)));
                toldDigits.put(k, (int) c);
                left = plus(left, minus(times(Q.of(c, 0, 1), power(k))));
            }
            List<Q> seen = new ArrayList<>();
            for (int places = 0; ; places++) {
                toldLength = 0;
                toldAhead = places;
                if (left.isZero()) return toldKind = 0;
                int at = seen.indexOf(left);
                if (at >= 0) { toldAhead = at; toldLength = places - at; return toldKind = 1; }
                if (places == 400) return toldKind = 2;
                seen.add(left);
                left = times(left, Q.of(0, 1, 1));
                long c = floorOf(left);
                toldDigits.put(-places - 1, (int) c);
                left = plus(left, Q.of(-c, 0, 1));
            }
        }
        int told(int what) { return toldKind < 0 ? -1 : what == 0 ? toldTop : what == 1 ? toldAhead : what == 2 ? toldLength : -1; }
        int digit(int k) {
            if (toldKind < 0) return -1;
            long at = k;
            if (toldKind == 1 && at < -toldAhead - toldLength) {
                long over = (-at - toldAhead - toldLength) % toldLength;
                at = -(toldAhead + (over == 0 ? toldLength : over));
            }
            Integer c = at < -100000 ? null : toldDigits.get((int) at);
            return c != null ? c : toldKind == 2 && k < 0 ? -1 : 0;
        }
        Q must(Q n) {
            if (!n.isNumber()) throw new Refused();
            return n;
        }
        Q weigh(List<Integer> row, int highest) {
            Q sum = Q.of(0, 0, 1);
            for (int i = 0; i < row.size(); i++) sum = plus(sum, times(Q.of(row.get(i), 0, 1), must(power(highest - i))));
            return must(sum);
        }
        boolean value(int s, int point, int round) {
            List<Integer> row = tape;
            tape = new ArrayList<>();
            int n = row.size();
            if (!slot(s) || point < 0 || point > n || round < 0 || round > point) return false;
            try {
                Q all = weigh(row.subList(0, n - round), n - point - 1);
                if (round > 0) {
                    Q r = weigh(row.subList(n - round, n), round - 1);
                    Q by = must(plus(must(power(round)), Q.of(-1, 0, 1)));
                    all = must(plus(must(times(must(over(r, by)), must(power(round - point)))), all));
                }
                return put(s, all);
            } catch (Refused e) {
                return false;
            }
        }
        /** ONE's digits by their own rule: x times what is left, the whole part goes off. */
        int oneDigit(int k) {
            Q left = Q.of(1, 0, 1);
            for (int i = 1; ; i++) {
                left = times(left, Q.of(0, 1, 1));
                long c = floorOf(left);
                left = plus(left, Q.of(-c, 0, 1));
                if (i == k) return (int) c;
            }
        }
        int[] bar(int n) {
            int[] t = new int[Math.max(n, 4)];
            for (int i = 0; i < Math.min(t.length, 4); i++) t[i] = oneDigit(i + 1);
            int last = t[3] == 0 ? t[2] != 0 ? 3 : t[1] != 0 ? 2 : 1 : 0;
            if (last > 0) {
                t[last - 1]--;
                for (int i = last; i < t.length; i++) t[i] = t[i - last];
            } else {
                for (int i = 4; i < t.length; i++) t[i] = t[3];
            }
            return t;
        }
        int firstNot(List<Integer> row, int[] bar) {
            for (int i = 0; i < row.size(); i++) {
                int[] part = row.subList(i, row.size()).stream().mapToInt(z -> z).toArray();
                if (Arrays.compare(part, Arrays.copyOf(bar, part.length)) > 0) return i;
            }
            return -1;
        }
        int allowed() {
            List<Integer> row = tape;
            tape = new ArrayList<>();
            for (int c : row) if (c < 0) return -2;
            return firstNot(row, bar(row.size()));
        }
        int one(int k) {
            if (k < 1 || k > 60) throw new NoSuchElementException();
            return oneDigit(k);
        }
        /** Counts rows by the sets of starts that are still like the BAR. */
        long rows(int n) {
            if (n < 0 || n > 16) throw new NoSuchElementException();
            int[] bar = bar(n);
            Map<List<Integer>, Long> states = new HashMap<>();
            states.put(List.of(), 1L);
            for (int i = 0; i < n; i++) {
                Map<List<Integer>, Long> next = new HashMap<>();
                for (var e : states.entrySet()) {
                    digit: for (int c = 0; c <= 20; c++) {
                        List<Integer> tied = new ArrayList<>();
                        List<Integer> starts = new ArrayList<>(e.getKey());
                        starts.add(0);
                        for (int matched : starts) {
                            if (c > bar[matched]) continue digit;
                            if (c == bar[matched]) tied.add(matched + 1);
                        }
                        next.merge(tied, e.getValue(), Long::sum);
                    }
                }
                states = next;
            }
            return states.values().stream().mapToLong(z -> z).sum();
        }
        /** All ALLOWED rows in the order of the alphabet, grown digit by digit. */
        void listWholes() {
            wholes = new ArrayList<>();
            int n = (int) Math.ceil(Math.log(50002) / Math.log(x().doubleValue())) + 1;
            long[] powU = new long[n], powV = new long[n];
            for (int k = 0; k < n; k++) { powU[k] = power(k).u.longValueExact(); powV[k] = power(k).v.longValueExact(); }
            grow(new int[n], 0, bar(n), powU, powV, 0, 0);
        }
        void grow(int[] row, int at, int[] bar, long[] powU, long[] powV, long u, long v) {
            if (wholes.size() > 50001) return;
            if (at == row.length) { wholes.add(Q.of(u, v, 1)); return; }
            for (int c = 0; c <= bar[0]; c++) {
                row[at] = c;
                boolean fine = true;
                for (int i = 0; i <= at && fine; i++) fine = Arrays.compare(row, i, at + 1, bar, 0, at + 1 - i) <= 0;
                int k = row.length - 1 - at;
                if (fine) grow(row, at + 1, bar, powU, powV, u + c * powU[k], v + c * powV[k]);
            }
        }
        boolean whole(int s, int n) {
            if (!slot(s) || n < 0 || n > 50000) return false;
            if (wholes == null) listWholes();
            return put(s, wholes.get(n));
        }
        int rank(int i) {
            if (!has(i)) return -1;
            if (wholes == null) listWholes();
            BigDecimal sought = approx(slots[i]);
            int low = 0, high = 50000;
            while (low < high) {
                int mid = (low + high) / 2;
                if (approx(wholes.get(mid)).compareTo(sought.subtract(BigDecimal.ONE.movePointLeft(40))) < 0) low = mid + 1; else high = mid;
            }
            return wholes.get(low).equals(slots[i]) ? low : -1;
        }

        int norm() { return (int) Math.abs(parts == 1 ? by : (long) by * by + (long) p * by * bz - (long) q * bz * bz); }
        boolean ring(boolean one, int np, int nq, int y, int z) {
            long m = one ? y : (long) y * y + (long) np * y * z - (long) nq * z * z;
            if (m == Long.MIN_VALUE || Math.abs(m) < 2 || Math.abs(m) > 25) return false;
            if (!one && (Math.abs((long) np) > 9 || Math.abs((long) nq) > 9 || Math.abs((long) y) > 100000 || Math.abs((long) z) > 100000)) return false;
            parts = one ? 1 : 2; p = one ? 0 : np; q = one ? 0 : nq; by = y; bz = one ? 0 : z;
            set = new int[0][];
            return true;
        }
        /** m / B, or null: B times (s, t) as two equations. */
        long[] by(long y, long z) {
            if (parts == 1) return y % by == 0 ? new long[] {y / by, 0} : null;
            // (by + bz w)(s + t w) = by s + q bz t + (bz s + (by + p bz) t) w
            long k12 = (long) q * bz, k22 = by + (long) p * bz, det = by * k22 - k12 * bz;
            long s = y * k22 - k12 * z, t = by * z - bz * y;
            return s % det == 0 && t % det == 0 ? new long[] {s / det, t / det} : null;
        }
        boolean set() {
            List<Integer> row = tape;
            tape = new ArrayList<>();
            if (row.size() != norm() * parts) return false;
            int[][] next = new int[norm()][];
            for (int i = 0; i < next.length; i++) {
                next[i] = parts == 1 ? new int[] {row.get(i), 0} : new int[] {row.get(2 * i), row.get(2 * i + 1)};
                for (int j = 0; j < i; j++) if (by(next[i][0] - next[j][0], next[i][1] - next[j][1]) != null) return false;
            }
            set = next;
            return true;
        }
        record Way(int kind, int ahead, int length, List<Integer> digits, List<List<Long>> met) { }
        Way way(long y, long z) {
            List<List<Long>> met = new ArrayList<>();
            List<Integer> digits = new ArrayList<>();
            List<Long> m = List.of(y, z);
            while (true) {
                if (m.equals(List.of(0L, 0L))) return new Way(0, met.size(), 0, digits, met);
                int at = met.indexOf(m);
                if (at >= 0) return new Way(1, at, met.size() - at, digits, met);
                if (met.size() == 300 || Math.abs(m.get(0)) > 1000000 || Math.abs(m.get(1)) > 1000000) return new Way(2, met.size(), 0, digits, met);
                met.add(m);
                int found = 0;
                List<Long> next = null;
                for (int i = 0; i < set.length; i++) {
                    long[] r = by(m.get(0) - set[i][0], m.get(1) - set[i][1]);
                    if (r != null) { found++; next = List.of(r[0], r[1]); digits.add(i); }
                }
                if (found != 1) throw new IllegalStateException("a member with " + found + " digits");
                m = next;
            }
        }
        int write(int y, int z) {
            if (parts == 1) z = 0;
            if (set.length == 0 || Math.abs((long) y) > 100000 || Math.abs((long) z) > 100000) return -1;
            Way way = way(y, z);
            wrKind = way.kind; wrAhead = way.ahead; wrLength = way.length; wrDigits = way.digits;
            return wrKind;
        }
        int written(int what) { return wrKind < 0 ? -1 : what == 0 ? wrAhead : what == 1 ? wrLength : -1; }
        int place(int k) { return k >= 0 && k < wrDigits.size() ? wrDigits.get(k) : -1; }
        int survey(int r, boolean keep) {
            if (set.length == 0 || r < 0 || r > 10) return -1;
            int ends = 0;
            TreeMap<List<Long>, Integer> found = new TreeMap<>((m, n) -> m.get(0).equals(n.get(0)) ? m.get(1).compareTo(n.get(1)) : m.get(0).compareTo(n.get(0)));
            for (int y = -r; y <= r; y++) for (int z = parts == 1 ? 0 : -r; z <= (parts == 1 ? 0 : r); z++) {
                Way way = way(y, z);
                if (way.kind == 2) return -1;
                if (way.kind == 0) ends++;
                else {
                    TreeMap<List<Long>, Integer> one = new TreeMap<>(found.comparator());
                    for (int i = way.ahead; i < way.ahead + way.length; i++) one.put(way.met.get(i), way.length);
                    found.put(one.firstKey(), way.length);
                }
            }
            if (!keep) return ends;
            rounds = new ArrayList<>();
            found.forEach((m, n) -> rounds.add(new int[] {n, m.get(0).intValue(), m.get(1).intValue()}));
            return rounds.size();
        }
        int round(int k, int what) {
            if (k < 0 || k >= rounds.size() || what < 0 || what > 2) throw new NoSuchElementException();
            return rounds.get(k)[what];
        }
        int count(int what) {
            return switch (what) {
                case 0 -> a;
                case 1 -> b;
                case 2 -> x().setScale(0, RoundingMode.FLOOR).intValue();
                case 3 -> (int) Arrays.stream(slots).filter(n -> n != null).count();
                case 4 -> tape.size();
                case 5 -> norm();
                case 6 -> set.length;
                case 7 -> parts;
                default -> -1;
            };
        }
    }

    interface Call { long get(); }

    private static final long THROWN = Long.MIN_VALUE;
    private static int wrong = 0;
    private static long calls = 0;
    private static final List<String> log = new ArrayList<>();

    private static long answer(Call c) {
        try { return c.get(); } catch (NoSuchElementException e) { return THROWN; }
    }

    private static void both(String name, Call got, Call want) {
        long g = answer(got), w = answer(want);
        calls++;
        log.add(name + " = " + g);
        if (g != w && wrong++ < 20) {
            System.out.println(name + " answered " + g + ", due is " + w + "; ahead of it:");
            log.subList(Math.max(0, log.size() - 25), log.size()).forEach(l -> System.out.println("    " + l));
        }
    }

    private static long bit(boolean b) { return b ? 1 : 0; }

    private static int odd(Random r, int low, int high) {
        int kind = r.nextInt(40);
        if (kind == 0) return Integer.MIN_VALUE;
        if (kind == 1) return Integer.MAX_VALUE;
        if (kind == 2) return low - 1;
        if (kind == 3) return high + 1;
        if (kind == 4) return low;
        if (kind == 5) return high;
        return low + r.nextInt(high - low + 1);
    }

    private static void feedRow(DigitBench x, Model m, int[] row) {
        for (int at = 0; at < row.length; at += 20) {
            int[] n = new int[5];
            for (int i = 0; i < 20; i++) n[i / 4] = n[i / 4] << 8 | (at + i < row.length ? row[at + i] & 255 : 0);
            both("feed " + Arrays.toString(n), () -> x.feed(n[0], n[1], n[2], n[3], n[4]), () -> m.feed(n));
        }
        both("end " + row.length, () -> bit(x.end(row.length)), () -> bit(m.end(row.length)));
    }

    private static void parts(DigitBench x, Model m, int s) {
        for (int w = 0; w < 3; w++) { int what = w; both("part " + s + " " + w, () -> x.part(s, what), () -> m.part(s, what)); }
    }

    private static void partOne(Random r, DigitBench x, Model m) {
        int s = odd(r, 0, 9), i = odd(r, 0, 9), j = r.nextInt(10);
        switch (r.nextInt(12)) {
            case 0, 1, 2 -> {
                int most = r.nextBoolean() ? 65536 : r.nextBoolean() ? 200000 : 20;
                int u = odd(r, -most, most), v = odd(r, -most, most), d = odd(r, 1, r.nextBoolean() ? 1000 : r.nextBoolean() ? 8 : 1);
                if (r.nextInt(3) == 0) v = 0;
                int fu = u, fv = v;
                both("number " + s + " " + u + " " + v + " " + d, () -> bit(x.number(s, fu, fv, d)), () -> bit(m.number(s, fu, fv, d)));
            }
            case 3, 4 -> {
                int what = r.nextInt(30) == 0 ? odd(r, 0, 3) : r.nextInt(4);
                both("make " + s + " " + i + " " + j + " " + what, () -> bit(x.make(s, i, j, what)), () -> bit(m.make(s, i, j, what)));
                parts(x, m, s);
            }
            case 5 -> {
                both("compare " + i + " " + j, () -> x.compare(i, j), () -> m.compare(i, j));
                both("floor " + i, () -> x.floor(i), () -> m.floor(i));
            }
            case 6, 7 -> {
                both("digits " + i, () -> x.digits(i), () -> m.digits(i));
                for (int w = -1; w < 4; w++) { int what = w; both("told " + w, () -> x.told(what), () -> m.told(what)); }
                for (int n = 0; n < 8; n++) {
                    int k = r.nextInt(5) == 0 ? odd(r, -410, 30) : r.nextInt(20) - 12;
                    both("digit " + k, () -> x.digit(k), () -> m.digit(k));
                }
            }
            case 8, 9 -> {
                int n = r.nextInt(r.nextInt(8) == 0 ? 40 : 9), most = r.nextInt(3) == 0 ? 127 : 3;
                int[] row = new int[n];
                for (int c = 0; c < n; c++) row[c] = r.nextBoolean() ? r.nextInt(most + 1) : r.nextInt(2 * most + 1) - most;
                feedRow(x, m, row);
                int point = r.nextInt(8) == 0 ? odd(r, 0, n) : r.nextInt(n + 1);
                int round = r.nextInt(8) == 0 ? odd(r, 0, n) : r.nextInt(Math.max(point, 0) % (n + 1) + 1);
                both("value " + s + " " + point + " " + round, () -> bit(x.value(s, point, round)), () -> bit(m.value(s, point, round)));
                parts(x, m, s);
            }
            case 10 -> {
                int n = r.nextInt(20);
                int[] row = new int[n];
                int[] bar = m.bar(n + 1);
                int start = r.nextInt(n + 1);
                for (int c = 0; c < n; c++) row[c] = c >= start ? bar[c - start] : r.nextInt(bar[0] + 1);
                if (n > 0 && r.nextInt(3) > 0) row[r.nextInt(n)] += r.nextInt(3) - 1;
                feedRow(x, m, row);
                both("allowed", () -> x.allowed(), () -> m.allowed());
                int k = odd(r, 1, 60);
                both("one " + k, () -> x.one(k), () -> m.one(k));
                int w = odd(r, 0, 16);
                both("rows " + w, () -> x.rows(w), () -> m.rows(w));
            }
            default -> {
                int a = odd(r, 1, 9), b = odd(r, -8, 9);
                if (r.nextBoolean()) both("base " + a + " " + b, () -> bit(x.base(a, b)), () -> bit(m.base(a, b)));
            }
        }
    }

    private static void partTwo(Random r, DigitBench x, Model m) {
        switch (r.nextInt(6)) {
            case 0 -> {
                boolean one = r.nextInt(4) == 0;
                int[] far = farBase(r);
                boolean near = one || r.nextInt(3) > 0;
                int p = near ? odd(r, -9, 9) : far[0], q = near ? odd(r, -9, 9) : far[1];
                int y = near ? odd(r, one ? -25 : -6, one ? 25 : 6) : far[2], z = near ? odd(r, -4, 4) : far[3];
                both("ring " + one + " " + p + " " + q + " " + y + " " + z, () -> bit(x.ring(one, p, q, y, z)), () -> bit(m.ring(one, p, q, y, z)));
            }
            case 1 -> feedSet(r, x, m);
            case 2, 3 -> {
                int most = r.nextBoolean() ? 100000 : 30, y = odd(r, -most, most), z = odd(r, -most, most);
                both("write " + y + " " + z, () -> x.write(y, z), () -> m.write(y, z));
                for (int w = -1; w < 3; w++) { int what = w; both("written " + w, () -> x.written(what), () -> m.written(what)); }
                for (int n = 0; n < 6; n++) {
                    int k = r.nextInt(3) == 0 ? odd(r, 0, 300) : r.nextInt(20);
                    both("place " + k, () -> x.place(k), () -> m.place(k));
                }
            }
            default -> {
                int w = r.nextInt(4) == 0 ? odd(r, 0, 10) : r.nextInt(5);
                both("rounds " + w, () -> x.rounds(w), () -> m.survey(w, true));
                int e = r.nextInt(4) == 0 ? odd(r, 0, 10) : r.nextInt(5);
                both("ending " + e, () -> x.ending(e), () -> m.survey(e, false));
                for (int n = 0; n < 6; n++) {
                    int k = r.nextInt(4) == 0 ? odd(r, 0, 441) : r.nextInt(3), what = n == 5 ? odd(r, 0, 2) : n % 3;
                    both("round " + k + " " + what, () -> x.round(k, what), () -> m.round(k, what));
                }
            }
        }
    }

    /** A BASE of two parts with great parts and a small NORM, as rings with units have them. */
    private static int[] farBase(Random r) {
        while (true) {
            int p = r.nextInt(19) - 9, q = r.nextInt(19) - 9;
            if (p * p + 4 * q < 0) continue;
            for (int tries = 0; tries < 200; tries++) {
                int z = r.nextInt(r.nextBoolean() ? 100000 : 300) + 1;
                int y = (int) Math.round((-p * (double) z + (r.nextBoolean() ? 1 : -1) * Math.sqrt(p * p + 4 * q) * z) / 2) + r.nextInt(3) - 1;
                long norm = Math.abs((long) y * y + (long) p * y * z - (long) q * z * z);
                if (norm >= 2 && norm <= 25 && Math.abs(y) <= 100000) return r.nextBoolean() ? new int[] {p, q, y, z} : new int[] {p, q, -y, -z};
            }
        }
    }

    /** Grows a SET digit by digit, so that most of what is fed is one. */
    private static void feedSet(Random r, DigitBench x, Model m) {
        int norm = m.norm(), most = r.nextInt(3) == 0 ? 127 : r.nextInt(2) == 0 ? 12 : 40;
        List<int[]> found = new ArrayList<>();
        for (int tries = 0; tries < 3000 && found.size() < norm; tries++) {
            int[] c = found.isEmpty() && r.nextInt(3) > 0 ? new int[2] : new int[] {r.nextInt(2 * most + 1) - most, m.parts == 1 ? 0 : r.nextInt(2 * most + 1) - most};
            boolean fresh = true;
            for (int[] d : found) fresh &= m.by(c[0] - d[0], c[1] - d[1]) != null ? false : true;
            if (fresh) found.add(c);
        }
        if (r.nextInt(8) == 0) found.set(r.nextInt(found.size()), new int[] {r.nextInt(9), m.parts == 1 ? 0 : r.nextInt(9)});
        int[] row = new int[found.size() * m.parts + (r.nextInt(12) == 0 ? 1 : 0)];
        for (int i = 0; i < found.size(); i++) for (int k = 0; k < m.parts; k++) row[i * m.parts + k] = found.get(i)[k];
        feedRow(x, m, row);
        both("set", () -> bit(x.set()), () -> bit(m.set()));
    }

    private static void wholesOfEveryBase(Random r) {
        for (int a = 1; a <= 9; a++) for (int b = -8; b <= 9; b++) {
            DigitBench x = new DigitBench();
            Model m = new Model();
            int fa = a, fb = b;
            both("base " + a + " " + b, () -> bit(x.base(fa, fb)), () -> bit(m.base(fa, fb)));
            if (m.a != a || m.b != b) continue;
            for (int k = 0; k <= 17; k++) { int w = k; both("rows " + k, () -> x.rows(w), () -> m.rows(w)); }
            for (int n = 0; n < 60; n++) {
                int k = n < 15 ? n : n == 15 ? 50000 : odd(r, 0, 50000);
                both("whole 3 " + k, () -> bit(x.whole(3, k)), () -> bit(m.whole(3, k)));
                parts(x, m, 3);
                both("rank 3", () -> x.rank(3), () -> m.rank(3));
                if (n % 6 == 0) both("digits 3", () -> x.digits(3), () -> m.digits(3));
                int u = r.nextInt(200) - 100, v = r.nextInt(300), d = r.nextInt(4) == 0 ? 2 : 1;
                both("number 4 " + u + " " + v + " " + d, () -> bit(x.number(4, u, v, d)), () -> bit(m.number(4, u, v, d)));
                both("rank 4", () -> x.rank(4), () -> m.rank(4));
            }
        }
    }

    public static void main(String[] args) {
        long seeds = args.length > 0 ? Long.parseLong(args[0]) : 200;
        long first = args.length > 1 ? Long.parseLong(args[1]) : 1;
        wholesOfEveryBase(new Random(first));
        for (long seed = first; seed < first + seeds; seed++) {
            Random r = new Random(seed);
            DigitBench x = new DigitBench();
            Model m = new Model();
            log.clear();
            // an object is used for at most 512 calls; a turn takes at most some 40
            long before = calls;
            while (calls - before < 460) {
                if (seed % 2 == 0) partOne(r, x, m); else partTwo(r, x, m);
                for (int w = -1; w <= 8; w++) { int what = w; both("count " + w, () -> x.count(what), () -> m.count(what)); }
            }
        }
        System.out.println(calls + " calls, " + wrong + " answers are not as due");
        if (wrong != 0) System.exit(1);
    }
}
