/** Promises 18 to 24. */
public final class LawsTest {
    private static final int[] NO_TABLES = {-1, 8, Integer.MIN_VALUE, Integer.MAX_VALUE};

    public static void main(String[] args) {
        promise18();
        promise19();
        promise20();
        promise21();
        promise22();
        promise22OfThree();
        promise23();
        promise24Silent();
        promise24Told();
        promise24Twice();
        promise24Refusals();
        Due.end();
    }

    private static void weighAll(FarPairs x, int v) {
        for (int i = 0; i < 81; i++) x.weigh(i / 9, i % 9, v);
    }

    /** One point, if the parity of the answers is the product of the questions. */
    private static FarPairs parityGame(int points) {
        FarPairs x = new FarPairs();
        for (int i = 0; i < 16; i++) {
            int p = i / 8, q = i / 4 % 2, a = i / 2 % 2, b = i % 2;
            if ((a + b) % 2 == p * q) x.weigh(3 * p + q, 3 * a + b, points);
        }
        return x;
    }

    private static void promise18() {
        FarPairs x = new FarPairs();
        weighAll(x, 5);
        x.share(3, 7);
        x.corner(0, 16);
        Due.is("18: begin", x.begin(2, 2), 0);
        Due.is("18: weights are 0", x.count(4), 0);
        Due.is("18: shares are none", x.count(1), 0);
        Due.is("18: what the share is", x.share(3, 7), 0);
        Due.is("18: no change", x.count(3), 1);
        weighAll(x, 1);
        String before = Seen.of(x);
        int[][] bad = {{0, 2}, {4, 2}, {-1, 3}, {1, 1}, {1, 4}, {2, -2}};
        for (int[] s : bad) Due.is("18: shape", x.begin(s[0], s[1]), Due.BAD);
        Due.holds("18: refused, so nothing changes", Seen.of(x).equals(before));
        int[][] shapes = {{1, 2, 4}, {1, 3, 9}, {2, 2, 16}, {2, 3, 81}, {3, 2, 64}, {3, 3, 729}};
        for (int[] s : shapes) {
            Due.is("18: begin", x.begin(s[0], s[1]), 0);
            Due.is("18: shape", x.count(5), s[2]);
            x.sure(1, s[0], s[1], 0);
            Due.is("18: of that shape", x.value(1, 0), 0);
        }
    }

    private static void promise19() {
        FarPairs x = new FarPairs();
        Due.is("19: what it was", x.weigh(4, 3, 1000), 0);
        Due.is("19: what it was", x.weigh(4, 3, -1000), 1000);
        Due.is("19: what it was", x.weigh(4, 3, 0), -1000);
        Due.is("19: what it was", x.weigh(4, 3, 2), 0);
        Due.is("19: one only", x.count(4), 1);
        String before = Seen.of(x);
        for (int row : new int[] {-1, 2, 5, 6, 7, 8, 9}) {
            Due.is("19: questions", x.weigh(row, 0, 1), Due.BAD);
            Due.is("19: answers", x.weigh(0, row, 1), Due.BAD);
        }
        for (int v : new int[] {-1001, 1001}) Due.is("19: v", x.weigh(0, 0, v), Due.BAD);
        Due.holds("19: refused, so nothing changes", Seen.of(x).equals(before));
        x.begin(1, 3);
        Due.is("19: questions of shape (1, 3)", x.weigh(1, 0, 1), Due.BAD);
        Due.is("19: answers of shape (1, 3)", x.weigh(0, 8, 1), 0);
    }

    private static void promise20() {
        for (int k = 0; k < 8; k++) {
            FarPairs x = new FarPairs();
            x.begin(3, 3);
            weighAll(x, 9);
            x.share(100, 4);
            Due.is("20: take", x.take(k), 0);
            Due.is("20: shares are none", x.count(1), 0);
            Due.is("20: shape", x.count(5), 16);
            Due.is("20: weights", x.count(4), 16);
            for (int i = 0; i < 16; i++) {
                int p = i / 8, q = i / 4 % 2, a = i / 2 % 2, b = i % 2;
                long want = (a == b ? 1 : -1) * (2 * p + q == k / 2 ? -1 : 1) * (k % 2 == 1 ? -1 : 1);
                Due.is("20: weight", x.weigh(3 * p + q, 3 * a + b, 0), want);
            }
        }
        FarPairs x = new FarPairs();
        weighAll(x, 3);
        x.share(2, 2);
        String before = Seen.of(x);
        for (int k : new int[] {-1, 8}) Due.is("20: k", x.take(k), Due.BAD);
        Due.holds("20: refused, so nothing changes", Seen.of(x).equals(before));
    }

    private static void promise21() {
        FarPairs x = new FarPairs();
        x.shape(0, 2, 2, 12);
        Due.is("21: zero", x.value(0, 0), 0);
        Due.is("21: zero, below the line", x.value(0, 1), 1);
        x.cell(0, 0, 0, 3);
        x.cell(0, 4, 1, 5);
        x.weigh(0, 0, -6);
        x.weigh(4, 1, 2);
        x.weigh(1, 0, 1000);
        // A table that is not PROPER has a value too: (3 * -6 + 5 * 2) / 12.
        Due.is("21: above the line", x.value(0, 0), -2);
        Due.is("21: below the line", x.value(0, 1), 3);
        for (int t : NO_TABLES) Due.is("21: table", x.value(t, 0), Due.BAD);
        for (int part : new int[] {-1, 2}) {
            Due.is("21: part", x.value(0, part), Due.BAD);
            Due.is("21: part stands ahead of missing", x.value(1, part), Due.BAD);
        }
        Due.is("21: missing", x.value(1, 0), Due.NO);
        int[][] shapes = {{1, 2}, {2, 3}, {3, 2}};
        for (int[] s : shapes) {
            x.sure(1, s[0], s[1], 0);
            Due.is("21: shape", x.value(1, 0), Due.NO);
        }
        x.begin(3, 3);
        weighAll(x, 1000);
        x.shape(2, 3, 3, 999983);
        for (int i = 0; i < 81; i++) x.cell(2, i / 9, i % 9, 999982);
        Due.is("21: a great one", x.value(2, 0), 81L * 1000 * 999982);
        Due.is("21: a great one, below", x.value(2, 1), 999983);
    }

    private static void boundIs(String what, FarPairs x, long... want) {
        for (int i = 0; i < 4; i++) Due.is(what + " " + i, x.bound(i), want[i]);
    }

    private static void promise22() {
        FarPairs x = new FarPairs();
        boundIs("22: all weights 0", x, 0, 0, 16, 0);
        x.take(6);
        boundIs("22: a corner law", x, 2, 0, 8, -2);
        boundIs("22: the parity game", parityGame(1), 3, 0, 8, 1);
        x.begin(2, 2);
        x.weigh(4, 3, 7);
        // First answers 1 to question 1, the other one 0 to question 1: F is 2 or 3, G 0 or 1.
        boundIs("22: one weight", x, 7, 8, 4, 0);
        x.weigh(4, 3, -7);
        boundIs("22: one weight below 0", x, 0, 0, 12, -7);
        weighAll(x, -3);
        boundIs("22: all below 0", x, -12, 0, 16, -12);
        for (int what : new int[] {-1, 4}) Due.is("22: what", x.bound(what), Due.BAD);
    }

    private static void promise22OfThree() {
        FarPairs x = new FarPairs();
        x.begin(3, 3);
        boundIs("22: of three, all 0", x, 0, 0, 729, 0);
        x.weigh(8, 8, 10);
        // F is 18 .. 26, G is 18 .. 26.
        boundIs("22: of three, the last", x, 10, 18 * 27 + 18, 81, 0);
        x.weigh(0, 8, 10);
        boundIs("22: of three, two", x, 20, 20 * 27 + 20, 9, 0);
        x = new FarPairs();
        x.begin(1, 3);
        for (int i = 0; i < 9; i++) x.weigh(0, i, new int[] {-5, 0, 3}[i / 3]);
        boundIs("22: the least is the first", x, 3, 6, 3, -5);
        for (int i = 0; i < 9; i++) x.weigh(0, i, i == 5 ? 4 : -i);
        boundIs("22: one question", x, 4, 5, 1, -8);
    }

    private static void promise23() {
        FarPairs x = new FarPairs();
        for (int k = 0; k < 24; k++) {
            x.corner(0, k);
            int broken = 0;
            for (int l = 0; l < 8; l++) {
                x.take(l);
                broken += x.breaks(0);
            }
            Due.is("23: how many laws are broken by corner " + k, broken, k < 16 ? 0 : 1);
        }
        x = parityGame(1000);
        x.corner(0, 16);
        Due.is("23: 4000 above 3000", x.breaks(0), 1);
        x.corner(1, 0);
        Due.is("23: just at the bound", x.breaks(1), 0);
        x.blend(0, 1, 2, 1001 + 999);
        Due.is("23: just above it", x.breaks(2), 1);
        x.shape(4, 2, 2, 1000000);
        for (int row : new int[] {0, 1, 3, 4}) x.cell(4, row, 0, 1000000);
        Due.is("23: just at the bound, of a great whole", x.breaks(4), 0);
        x.cell(4, 4, 1, 1);
        Due.is("23: above it by a millionth", x.breaks(4), 1);
        for (int t : NO_TABLES) Due.is("23: table", x.breaks(t), Due.BAD);
        Due.is("23: missing", x.breaks(7), Due.NO);
        x.sure(3, 2, 3, 0);
        Due.is("23: shape", x.breaks(3), Due.NO);
        x.sure(3, 3, 2, 0);
        Due.is("23: shape", x.breaks(3), Due.NO);
    }

    private static void promise24Silent() {
        FarPairs x = new FarPairs();
        Due.is("24: all weights 0", x.best(0), 0);
        Due.is("24: least corner", x.best(1), 0);
        for (int k = 0; k < 24; k++) {
            x = new FarPairs();
            x.corner(0, k);
            for (int i = 0; i < 81; i++) if (x.chance(0, i / 9, i % 9) == 1) x.weigh(i / 9, i % 9, 3);
            Due.is("24: the corner's own game", x.best(0), 24);
            Due.is("24: the corner", x.best(1), k);
        }
        x.begin(2, 2);
        weighAll(x, -1);
        Due.is("24: below 0", x.best(0), -8);
        x.begin(2, 2);
        // A SURE table has the 2 whole, the others have a half of 2 and of 1.
        x.weigh(0, 0, 2);
        x.weigh(0, 4, 1);
        Due.is("24: a sure one is best", x.best(0), 4);
        Due.is("24: the least that has it", x.best(1), 0);
    }

    private static void promise24Told() {
        FarPairs x = parityGame(1);
        Due.is("24: with a bit all is won", x.best(2), 4);
        x = new FarPairs();
        weighAll(x, -2);
        Due.is("24: told, below 0", x.best(2), -8);
        x.begin(3, 3);
        // The other one must name the first one's question: a bit tells two of three apart.
        for (int p = 0; p < 3; p++)
            for (int q = 0; q < 3; q++)
                for (int a = 0; a < 3; a++) x.weigh(3 * p + q, 3 * a + p, 1);
        Due.is("24: by lots", x.bound(0), 3);
        Due.is("24: told", x.best(2), 6);
        for (int q = 0; q < 3; q++) for (int a = 0; a < 3; a++) x.weigh(q, 3 * a, 5);
        Due.is("24: told, weighed", x.best(2), 15 + 3);
        for (int q = 0; q < 3; q++) for (int a = 0; a < 3; a++) x.weigh(6 + q, 3 * a + 2, 5);
        Due.is("24: told, weighed otherwise", x.best(2), 15 + 15);
        for (int alone = 0; alone < 3; alone++) {
            // One question of the first one wants answer 1 of the other, the others answer 2.
            x = new FarPairs();
            x.begin(3, 3);
            weighAll(x, -7);
            for (int i = 0; i < 27; i++) x.weigh(i / 3, 3 * (i % 3) + (i / 9 == alone ? 1 : 2), -3);
            Due.is("24: told, question " + alone + " apart", x.best(2), -27);
        }
        x.begin(1, 3);
        x.weigh(0, 7, 9);
        Due.is("24: told, of one question", x.best(2), 9);
        x.begin(1, 2);
        weighAll(x, -4);
        Due.is("24: told, of one question, below 0", x.best(2), -4);
        // The other one can tell nothing: the first one can't name y.
        x.begin(2, 2);
        for (int p = 0; p < 2; p++)
            for (int q = 0; q < 2; q++)
                for (int b = 0; b < 2; b++) x.weigh(3 * p + q, 3 * q + b, 1);
        Due.is("24: the bit goes one way", x.best(2), 2);
    }

    private static void promise24Twice() {
        Due.is("24: the parity game twice", parityGame(1).best(3), 10);
        Due.is("24: by points", parityGame(100).best(3), 100000);
        FarPairs x = new FarPairs();
        Due.is("24: all weights 0", x.best(3), 0);
        weighAll(x, 100);
        Due.is("24: all the same", x.best(3), 160000);
        x.begin(2, 2);
        x.weigh(0, 0, 3);
        Due.is("24: one row", x.best(3), 9);
        x.weigh(0, 4, 5);
        Due.is("24: the better answers", x.best(3), 25);
        x.weigh(4, 1, 7);
        Due.is("24: two rows", x.best(3), 144);
        for (int i = 0; i < 4; i++) {
            // One of the two must always give one answer.
            x.begin(2, 2);
            for (int j = 0; j < 8; j++) x.weigh(j / 4 * 3 + j / 2 % 2, i < 2 ? 3 * i + j % 2 : 3 * (j % 2) + i - 2, 2);
            Due.is("24: one answer alone " + i, x.best(3), 64);
        }
        for (int person = 0; person < 2; person++) {
            // One of the two must name the own question.
            x.begin(2, 2);
            for (int i = 0; i < 8; i++) {
                int own = i / 4, other = i / 2 % 2, free = i % 2;
                x.weigh(person == 0 ? 3 * own + other : 3 * other + own, person == 0 ? 3 * own + free : 3 * free + own, 2);
            }
            Due.is("24: the own question, by person " + person, x.best(3), 64);
        }
        // Won, if the parity is 1 just with questions 0, 0.
        FarPairs y = new FarPairs();
        int[][] won = {{0, 1}, {0, 3}, {1, 0}, {1, 4}, {3, 0}, {3, 4}, {4, 0}, {4, 4}};
        for (int[] w : won) y.weigh(w[0], w[1], 1);
        Due.is("24: a parity game of another corner", y.best(3), 10);
    }

    private static void promise24Refusals() {
        FarPairs x = new FarPairs();
        for (int what : new int[] {-1, 4}) Due.is("24: what", x.best(what), Due.BAD);
        x.weigh(4, 4, 100);
        Due.is("24: a weight of 100", x.best(3), 10000);
        x.weigh(4, 4, 101);
        Due.is("24: a weight above 100", x.best(3), Due.NO);
        x.weigh(4, 4, -1);
        Due.is("24: a weight below 0", x.best(3), Due.NO);
        Due.is("24: the others take it", x.best(0), 0);
        x.weigh(4, 4, 0);
        x.weigh(0, 0, 101);
        Due.is("24: the first weight above 100", x.best(3), Due.NO);
        int[][] shapes = {{1, 2}, {1, 3}, {2, 3}, {3, 2}, {3, 3}};
        for (int[] s : shapes) {
            x.begin(s[0], s[1]);
            for (int what : new int[] {0, 1, 3}) Due.is("24: shape", x.best(what), Due.NO);
            Due.is("24: told of any shape", x.best(2), 0);
            Due.is("24: what", x.best(4), Due.BAD);
        }
    }
}
