import java.math.BigInteger;
import java.util.ArrayDeque;
import java.util.Deque;
import java.util.TreeMap;

/**
 * The document over again, by its words alone and by trying everything: slow, with chances as fractions of BigInteger
 * where numbers grow. It shares no code with the class under test.
 */
final class Oracle {
    static final class Table {
        final int q, a;
        final BigInteger whole;
        final BigInteger[][][][] cells;

        Table(int q, int a, BigInteger whole) {
            this.q = q;
            this.a = a;
            this.whole = whole;
            cells = new BigInteger[q][q][a][a];
            for (int x = 0; x < q; x++)
                for (int y = 0; y < q; y++)
                    for (int b = 0; b < a; b++)
                        for (int c = 0; c < a; c++) cells[x][y][b][c] = BigInteger.ZERO;
        }

        Table copy() {
            Table other = new Table(q, a, whole);
            for (int x = 0; x < q; x++)
                for (int y = 0; y < q; y++)
                    for (int b = 0; b < a; b++) other.cells[x][y][b] = cells[x][y][b].clone();
            return other;
        }

        Table lowest() {
            BigInteger divisor = whole;
            for (int x = 0; x < q; x++)
                for (int y = 0; y < q; y++)
                    for (int b = 0; b < a; b++)
                        for (int c = 0; c < a; c++) divisor = divisor.gcd(cells[x][y][b][c]);
            Table other = new Table(q, a, whole.divide(divisor));
            for (int x = 0; x < q; x++)
                for (int y = 0; y < q; y++)
                    for (int b = 0; b < a; b++)
                        for (int c = 0; c < a; c++) other.cells[x][y][b][c] = cells[x][y][b][c].divide(divisor);
            return other;
        }

        boolean proper() {
            for (int x = 0; x < q; x++)
                for (int y = 0; y < q; y++) {
                    BigInteger sum = BigInteger.ZERO;
                    for (int b = 0; b < a; b++)
                        for (int c = 0; c < a; c++) sum = sum.add(cells[x][y][b][c]);
                    if (!sum.equals(whole)) return false;
                }
            return true;
        }

        BigInteger first(int x, int y, int b) {
            BigInteger sum = BigInteger.ZERO;
            for (int c = 0; c < a; c++) sum = sum.add(cells[x][y][b][c]);
            return sum;
        }

        BigInteger second(int x, int y, int c) {
            BigInteger sum = BigInteger.ZERO;
            for (int b = 0; b < a; b++) sum = sum.add(cells[x][y][b][c]);
            return sum;
        }

        long shows() {
            for (int x = 0; x < q; x++)
                for (int b = 0; b < a; b++)
                    for (int y = 1; y < q; y++)
                        if (!first(x, y, b).equals(first(x, 0, b))) return 9 * x + 3 * b + y;
            for (int y = 0; y < q; y++)
                for (int c = 0; c < a; c++)
                    for (int x = 1; x < q; x++)
                        if (!second(x, y, c).equals(second(0, y, c))) return 27 + 9 * y + 3 * c + x;
            return -1;
        }

        boolean silent() {
            return proper() && shows() == -1;
        }

        boolean sameChances(Table s) {
            if (q != s.q || a != s.a) return false;
            return firstOther(s) == -1;
        }

        long firstOther(Table s) {
            for (int x = 0; x < q; x++)
                for (int y = 0; y < q; y++)
                    for (int b = 0; b < a; b++)
                        for (int c = 0; c < a; c++)
                            if (!cells[x][y][b][c].multiply(s.whole).equals(s.cells[x][y][b][c].multiply(whole)))
                                return 27 * x + 9 * y + 3 * b + c;
            return -1;
        }

        long sure() {
            for (int n = 0; n < sures(q, a); n++) if (sameChances(sureTable(q, a, n))) return n;
            return -1;
        }

        BigInteger e(int x, int y) {
            return cells[x][y][0][0].add(cells[x][y][1][1]).subtract(cells[x][y][0][1]).subtract(cells[x][y][1][0]);
        }

        BigInteger cornerLaw(int k) {
            int i = k / 2;
            BigInteger sum = BigInteger.ZERO;
            for (int x = 0; x < 2; x++)
                for (int y = 0; y < 2; y++)
                    sum = 2 * x + y == i ? sum.subtract(e(x, y)) : sum.add(e(x, y));
            return k % 2 == 1 ? sum.negate() : sum;
        }
    }

    static int sures(int q, int a) {
        int result = 1;
        for (int i = 0; i < 2 * q; i++) result *= a;
        return result;
    }

    static int digit(int n, int base, int place) {
        String digits = new StringBuilder(Integer.toString(n, base)).reverse().toString();
        return place < digits.length() ? digits.charAt(place) - '0' : 0;
    }

    static Table sureTable(int q, int a, int n) {
        Table table = new Table(q, a, BigInteger.ONE);
        for (int x = 0; x < q; x++)
            for (int y = 0; y < q; y++)
                table.cells[x][y][digit(n, a, q + x)][digit(n, a, y)] = BigInteger.ONE;
        return table;
    }

    static Table cornerTable(int k) {
        if (k < 16) return sureTable(2, 2, k);
        Table table = new Table(2, 2, BigInteger.TWO);
        int l = (k - 16) / 4, m = (k - 16) / 2 % 2, n = (k - 16) % 2;
        for (int x = 0; x < 2; x++)
            for (int y = 0; y < 2; y++)
                for (int a = 0; a < 2; a++)
                    for (int b = 0; b < 2; b++)
                        if ((a + b) % 2 == (x * y + l * x + m * y + n) % 2) table.cells[x][y][a][b] = BigInteger.ONE;
        return table;
    }

    private static final BigInteger MOST = BigInteger.valueOf(1000000);
    private Table[] tables = new Table[8];
    private final Deque<Table[]> kept = new ArrayDeque<>();
    private int lawQ = 2, lawA = 2;
    private int[] weights = new int[81];
    private TreeMap<Integer, Integer> shares = new TreeMap<>();

    private static boolean row(int row, int limit) {
        return row >= 0 && row / 3 < limit && row % 3 < limit;
    }

    private static boolean shapeOk(int q, int a) {
        return q >= 1 && q <= 3 && a >= 2 && a <= 3;
    }

    private static boolean table(int... ts) {
        for (int t : ts) if (t < 0 || t > 7) return false;
        return true;
    }

    private void change(int t, Table to) {
        Table[] before = new Table[8];
        for (int i = 0; i < 8; i++) before[i] = tables[i] == null ? null : tables[i].copy();
        kept.addLast(before);
        if (kept.size() > 6) kept.removeFirst();
        tables[t] = to;
    }

    long shape(int t, int q, int a, int whole) {
        if (!table(t) || !shapeOk(q, a) || whole < 1 || whole > 1000000) return Due.BAD;
        change(t, new Table(q, a, BigInteger.valueOf(whole)));
        return (long) q * q * a * a;
    }

    long lose(int t) {
        if (!table(t)) return Due.BAD;
        if (tables[t] == null) return Due.NO;
        change(t, null);
        return 0;
    }

    long cell(int t, int questions, int answers, int v) {
        if (!table(t)) return Due.BAD;
        if (tables[t] == null) return Due.NO;
        Table next = tables[t].copy();
        if (!row(questions, next.q) || !row(answers, next.a) || v < 0 || v > next.whole.longValueExact()) return Due.BAD;
        long was = next.cells[questions / 3][questions % 3][answers / 3][answers % 3].longValueExact();
        next.cells[questions / 3][questions % 3][answers / 3][answers % 3] = BigInteger.valueOf(v);
        change(t, next);
        return was;
    }

    long sure(int t, int q, int a, int n) {
        if (!table(t) || !shapeOk(q, a) || n < 0 || n >= sures(q, a)) return Due.BAD;
        change(t, sureTable(q, a, n));
        return 0;
    }

    long corner(int t, int k) {
        if (!table(t) || k < 0 || k > 23) return Due.BAD;
        change(t, cornerTable(k));
        return 0;
    }

    long about(int t, int what) {
        if (!table(t) || what < 0 || what > 3) return Due.BAD;
        Table here = tables[t];
        if (here == null) return Due.NO;
        if (what == 0) return here.q;
        if (what == 1) return here.a;
        if (what == 2) return here.whole.longValueExact();
        long found = 0;
        for (BigInteger[][][] xs : here.cells)
            for (BigInteger[][] ys : xs) for (BigInteger[] as : ys) for (BigInteger c : as) found += c.signum();
        return found;
    }

    long chance(int t, int questions, int answers) {
        if (!table(t)) return Due.BAD;
        Table here = tables[t];
        if (here == null) return Due.NO;
        if (!row(questions, here.q) || !row(answers, here.a)) return Due.BAD;
        return here.cells[questions / 3][questions % 3][answers / 3][answers % 3].longValueExact();
    }

    long swap(int t, int personAndQuestion, int a, int b) {
        if (!table(t)) return Due.BAD;
        Table here = tables[t];
        if (here == null) return Due.NO;
        if (personAndQuestion < 0 || personAndQuestion > 5 || personAndQuestion % 3 >= here.q) return Due.BAD;
        if (a < 0 || a >= here.a || b < 0 || b >= here.a) return Due.BAD;
        Table next = here.copy();
        for (int x = 0; x < here.q; x++)
            for (int y = 0; y < here.q; y++)
                for (int c = 0; c < here.a; c++)
                    for (int d = 0; d < here.a; d++) {
                        boolean first = personAndQuestion / 3 == 0;
                        if ((first ? x : y) != personAndQuestion % 3) continue;
                        int own = first ? c : d;
                        int from = own == a ? b : own == b ? a : own;
                        next.cells[x][y][c][d] = first ? here.cells[x][y][from][d] : here.cells[x][y][c][from];
                    }
        change(t, next);
        return 0;
    }

    long turn(int t, int how) {
        if (!table(t)) return Due.BAD;
        Table here = tables[t];
        if (here == null) return Due.NO;
        if (how < 0 || how > 2) return Due.BAD;
        Table next = here.copy();
        int last = here.q - 1;
        for (int x = 0; x < here.q; x++)
            for (int y = 0; y < here.q; y++)
                for (int c = 0; c < here.a; c++)
                    for (int d = 0; d < here.a; d++) {
                        if (how == 0) next.cells[y][x][d][c] = here.cells[x][y][c][d];
                        if (how == 1) next.cells[last - x][y][c][d] = here.cells[x][y][c][d];
                        if (how == 2) next.cells[x][last - y][c][d] = here.cells[x][y][c][d];
                    }
        change(t, next);
        return 0;
    }

    long same(int t, int s) {
        if (!table(t, s)) return Due.BAD;
        if (tables[t] == null || tables[s] == null) return Due.NO;
        return tables[t].sameChances(tables[s]) ? 1 : 0;
    }

    long isOf(int t, int kind) {
        if (!table(t) || kind < 0 || kind > 4) return Due.BAD;
        Table here = tables[t];
        if (here == null) return Due.NO;
        if (kind == 0) return 1;
        if (kind == 1) return here.proper() ? 1 : 0;
        if (kind == 2) return here.silent() ? 1 : 0;
        if (kind == 4) return here.sure() >= 0 ? 1 : 0;
        if (!here.silent()) return 0;
        if (here.sure() >= 0 || here.q == 1) return 1;
        if (here.q != 2 || here.a != 2) return Due.LARGE;
        for (int k = 0; k < 8; k++)
            if (here.cornerLaw(k).compareTo(here.whole.multiply(BigInteger.TWO)) > 0) return 0;
        return 1;
    }

    long who(int t) {
        if (!table(t)) return Due.BAD;
        if (tables[t] == null || !tables[t].proper()) return Due.NO;
        return tables[t].shows() == -1 ? Due.NONE : tables[t].shows();
    }

    long number(int t) {
        if (!table(t)) return Due.BAD;
        if (tables[t] == null) return Due.NO;
        return tables[t].sure() == -1 ? Due.NONE : tables[t].sure();
    }

    private boolean twos(int t) {
        return tables[t] != null && tables[t].q == 2 && tables[t].a == 2;
    }

    long law(int t, int k) {
        if (!table(t) || k < 0 || k > 7) return Due.BAD;
        if (!twos(t) || !tables[t].proper()) return Due.NO;
        return tables[t].cornerLaw(k).longValueExact();
    }

    long broken(int t) {
        if (!table(t)) return Due.BAD;
        if (!twos(t) || !tables[t].silent()) return Due.NO;
        for (int k = 0; k < 8; k++)
            if (tables[t].cornerLaw(k).compareTo(tables[t].whole.multiply(BigInteger.TWO)) > 0) return k;
        return Due.NONE;
    }

    private static long part(BigInteger above, BigInteger below, int part) {
        BigInteger divisor = above.gcd(below);
        return (part == 0 ? above : below).divide(divisor).longValueExact();
    }

    long near(int t, int what, int part) {
        if (!table(t) || what < 0 || what > 1 || part < 0 || part > 1) return Due.BAD;
        if (!twos(t) || !tables[t].silent()) return Due.NO;
        BigInteger two = tables[t].whole.multiply(BigInteger.TWO);
        BigInteger s = tables[t].cornerLaw(0);
        for (int k = 1; k < 8; k++) s = s.max(tables[t].cornerLaw(k));
        if (s.compareTo(two) <= 0) return part(BigInteger.valueOf(what == 0 ? 1 : 0), BigInteger.ONE, part);
        if (what == 0) return part(two.add(two).subtract(s), two, part);
        return part(s.subtract(two), s, part);
    }

    long begin(int q, int a) {
        if (!shapeOk(q, a)) return Due.BAD;
        lawQ = q;
        lawA = a;
        weights = new int[81];
        shares = new TreeMap<>();
        return 0;
    }

    long weigh(int questions, int answers, int v) {
        if (!row(questions, lawQ) || !row(answers, lawA) || v < -1000 || v > 1000) return Due.BAD;
        int was = weights[9 * questions + answers];
        weights[9 * questions + answers] = v;
        return was;
    }

    long take(int k) {
        if (k < 0 || k > 7) return Due.BAD;
        begin(2, 2);
        for (int x = 0; x < 2; x++)
            for (int y = 0; y < 2; y++)
                for (int a = 0; a < 2; a++)
                    for (int b = 0; b < 2; b++) {
                        int w = a == b ? 1 : -1;
                        if (2 * x + y == k / 2) w = -w;
                        if (k % 2 == 1) w = -w;
                        weights[27 * x + 9 * y + 3 * a + b] = w;
                    }
        return 0;
    }

    private boolean lawShape(int t) {
        return tables[t] != null && tables[t].q == lawQ && tables[t].a == lawA;
    }

    private BigInteger sum(Table here) {
        BigInteger sum = BigInteger.ZERO;
        for (int x = 0; x < here.q; x++)
            for (int y = 0; y < here.q; y++)
                for (int a = 0; a < here.a; a++)
                    for (int b = 0; b < here.a; b++)
                        sum = sum.add(here.cells[x][y][a][b].multiply(BigInteger.valueOf(weights[27 * x + 9 * y + 3 * a + b])));
        return sum;
    }

    long value(int t, int part) {
        if (!table(t) || part < 0 || part > 1) return Due.BAD;
        if (!lawShape(t)) return Due.NO;
        return part(sum(tables[t]), tables[t].whole, part);
    }

    private int atSure(int n) {
        int sum = 0;
        for (int x = 0; x < lawQ; x++)
            for (int y = 0; y < lawQ; y++)
                sum += weights[27 * x + 9 * y + 3 * digit(n, lawA, lawQ + x) + digit(n, lawA, y)];
        return sum;
    }

    long bound(int what) {
        if (what < 0 || what > 3) return Due.BAD;
        int most = Integer.MIN_VALUE, least = Integer.MAX_VALUE, found = 0, ways = 0;
        for (int n = 0; n < sures(lawQ, lawA); n++) {
            int here = atSure(n);
            if (here > most) {
                most = here;
                found = n;
                ways = 0;
            }
            if (here == most) ways++;
            least = Math.min(least, here);
        }
        return new long[] {most, found, ways, least}[what];
    }

    long breaks(int t) {
        if (!table(t)) return Due.BAD;
        if (!lawShape(t)) return Due.NO;
        return sum(tables[t]).compareTo(BigInteger.valueOf(bound(0)).multiply(tables[t].whole)) > 0 ? 1 : 0;
    }

    long best(int what) {
        if (what < 0 || what > 3) return Due.BAD;
        if (what == 2) return told();
        if (lawQ != 2 || lawA != 2) return Due.NO;
        if (what == 3) {
            for (int w : weights) if (w < 0 || w > 100) return Due.NO;
            return twice();
        }
        long most = Long.MIN_VALUE, found = 0;
        for (int k = 0; k < 24; k++) {
            Table here = cornerTable(k);
            long twice = sum(here).multiply(BigInteger.TWO).divide(here.whole).longValueExact();
            if (twice > most) {
                most = twice;
                found = k;
            }
        }
        return what == 0 ? most : found;
    }

    private long told() {
        int ways = 1, others = sures(lawQ, lawA);
        for (int i = 0; i < lawQ; i++) ways *= lawA;
        int[][] digits = new int[others][2 * lawQ];
        for (int n = 0; n < others; n++) for (int i = 0; i < 2 * lawQ; i++) digits[n][i] = digit(n, lawA, i);
        long most = Long.MIN_VALUE;
        for (int f = 0; f < ways; f++)
            for (int bits = 0; bits < 1 << lawQ; bits++)
                for (int g = 0; g < others; g++) {
                    long sum = 0;
                    for (int x = 0; x < lawQ; x++)
                        for (int y = 0; y < lawQ; y++)
                            sum += weights[27 * x + 9 * y + 3 * digits[f][x] + digits[g][2 * y + (bits >> x & 1)]];
                    most = Math.max(most, sum);
                }
        return most;
    }

    private int w(int x, int y, int a, int b) {
        return weights[27 * x + 9 * y + 3 * a + b];
    }

    private long twice() {
        long most = Long.MIN_VALUE;
        for (int f = 0; f < 256; f++)
            for (int g = 0; g < 256; g++) {
                long sum = 0;
                for (int x = 0; x < 4; x++)
                    for (int y = 0; y < 4; y++) {
                        int a = f >> 2 * x & 3, b = g >> 2 * y & 3;
                        sum += (long) w(x >> 1, y >> 1, a >> 1, b >> 1) * w(x & 1, y & 1, a & 1, b & 1);
                    }
                most = Math.max(most, sum);
            }
        return most;
    }

    long share(int n, int v) {
        if (n < 0 || n >= sures(lawQ, lawA) || v < 0 || v > 1000000) return Due.BAD;
        int was = shares.getOrDefault(n, 0);
        int others = shares.size() - (was != 0 ? 1 : 0);
        if (v != 0 && others >= 30) return Due.FULL;
        if (v == 0) shares.remove(n);
        else shares.put(n, v);
        return was;
    }

    private Table mix() {
        BigInteger whole = BigInteger.ZERO;
        for (int v : shares.values()) whole = whole.add(BigInteger.valueOf(v));
        Table mix = new Table(lawQ, lawA, whole);
        shares.forEach((n, v) -> {
            for (int x = 0; x < lawQ; x++)
                for (int y = 0; y < lawQ; y++) {
                    int a = digit(n, lawA, lawQ + x), b = digit(n, lawA, y);
                    mix.cells[x][y][a][b] = mix.cells[x][y][a][b].add(BigInteger.valueOf(v));
                }
        });
        return mix;
    }

    private long settle(int r, Table made) {
        Table lowest = made.lowest();
        if (lowest.whole.compareTo(MOST) > 0) return Due.FULL;
        change(r, lowest);
        return lowest.whole.longValueExact();
    }

    long mixed(int t) {
        if (!table(t)) return Due.BAD;
        if (shares.isEmpty()) return Due.NO;
        return settle(t, mix());
    }

    long makes(int t) {
        if (!table(t)) return Due.BAD;
        if (!lawShape(t) || shares.isEmpty()) return Due.NO;
        return 1 + mix().firstOther(tables[t]);
    }

    private boolean bothProper(int t, int s) {
        return tables[t] != null && tables[s] != null && tables[t].proper() && tables[s].proper();
    }

    long wire(int t, int s, int r) {
        if (!table(t, s, r)) return Due.BAD;
        if (!bothProper(t, s) || tables[t].a != tables[s].q) return Due.NO;
        Table one = tables[t], two = tables[s];
        Table made = new Table(one.q, two.a, one.whole.multiply(two.whole));
        for (int x = 0; x < one.q; x++)
            for (int y = 0; y < one.q; y++)
                for (int a = 0; a < one.a; a++)
                    for (int b = 0; b < one.a; b++)
                        for (int c = 0; c < two.a; c++)
                            for (int d = 0; d < two.a; d++)
                                made.cells[x][y][c][d] = made.cells[x][y][c][d]
                                    .add(one.cells[x][y][a][b].multiply(two.cells[a][b][c][d]));
        return settle(r, made);
    }

    long blend(int t, int s, int r, int vAndW) {
        if (!table(t, s, r) || vAndW <= 0 || vAndW / 1001 > 1000) return Due.BAD;
        if (!bothProper(t, s) || tables[t].q != tables[s].q || tables[t].a != tables[s].a) return Due.NO;
        Table one = tables[t], two = tables[s];
        BigInteger v = BigInteger.valueOf(vAndW / 1001), w = BigInteger.valueOf(vAndW % 1001);
        Table made = new Table(one.q, one.a, v.add(w).multiply(one.whole).multiply(two.whole));
        for (int x = 0; x < one.q; x++)
            for (int y = 0; y < one.q; y++)
                for (int a = 0; a < one.a; a++)
                    for (int b = 0; b < one.a; b++)
                        made.cells[x][y][a][b] = v.multiply(one.cells[x][y][a][b]).multiply(two.whole)
                            .add(w.multiply(two.cells[x][y][a][b]).multiply(one.whole));
        return settle(r, made);
    }

    long parity(int t, int s, int r) {
        if (!table(t, s, r)) return Due.BAD;
        if (!bothProper(t, s) || tables[t].q != tables[s].q || tables[t].a != 2 || tables[s].a != 2) return Due.NO;
        Table one = tables[t], two = tables[s];
        Table made = new Table(one.q, 2, one.whole.multiply(two.whole));
        for (int x = 0; x < one.q; x++)
            for (int y = 0; y < one.q; y++)
                for (int a = 0; a < 2; a++)
                    for (int b = 0; b < 2; b++)
                        for (int c = 0; c < 2; c++)
                            for (int d = 0; d < 2; d++) {
                                int own = (a + c) % 2, other = (b + d) % 2;
                                made.cells[x][y][own][other] = made.cells[x][y][own][other]
                                    .add(one.cells[x][y][a][b].multiply(two.cells[x][y][c][d]));
                            }
        return settle(r, made);
    }

    long undo() {
        if (kept.isEmpty()) return Due.NO;
        tables = kept.removeLast();
        return kept.size();
    }

    long count(int what) {
        long found = 0;
        switch (what) {
            case 0:
                for (Table here : tables) if (here != null) found++;
                return found;
            case 1:
                return shares.size();
            case 2:
                for (int v : shares.values()) found += v;
                return found;
            case 3:
                return kept.size();
            case 4:
                for (int w : weights) if (w != 0) found++;
                return found;
            case 5:
                return sures(lawQ, lawA);
            default:
                return Due.BAD;
        }
    }
}
