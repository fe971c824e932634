/** Promises 1 to 11. */
public final class TablesTest {
    private static final int[] NO_TABLES = {-1, 8, Integer.MIN_VALUE, Integer.MAX_VALUE};

    public static void main(String[] args) {
        promise1();
        promise2();
        promise3();
        promise4();
        promise5();
        promise6();
        promise7();
        promise8();
        promise9();
        promise9Refusals();
        promise10();
        promise10OfThree();
        promise11();
        Due.end();
    }

    private static void promise1() {
        FarPairs x = new FarPairs();
        for (int t = 0; t < 8; t++) Due.is("1: about of a missing table", x.about(t, 0), Due.NO);
        long[] counts = {0, 0, 0, 0, 0, 16};
        for (int what = 0; what < 6; what++) Due.is("1: count " + what, x.count(what), counts[what]);
        Due.is("1: nothing to undo", x.undo(), Due.NO);
        x.sure(0, 2, 2, 0);
        Due.is("1: the law has shape (2, 2)", x.value(0, 0), 0);
        Due.is("1: no shares", x.makes(0), Due.NO);
    }

    private static void promise2() {
        FarPairs x = new FarPairs();
        for (int q = 1; q <= 3; q++)
            for (int a = 2; a <= 3; a++) Due.is("2: cells", x.shape(7, q, a, 1000000), (long) q * q * a * a);
        x.cell(7, 8, 8, 5);
        Due.is("2: shaped anew", x.shape(7, 3, 3, 1), 81);
        Due.is("2: all cells are 0", x.about(7, 3), 0);
        Due.is("2: the whole", x.about(7, 2), 1);
        String before = Seen.of(x);
        for (int t : NO_TABLES) Due.is("2: table", x.shape(t, 1, 2, 1), Due.BAD);
        for (int q : new int[] {0, 4, -1}) Due.is("2: questions", x.shape(0, q, 2, 1), Due.BAD);
        for (int a : new int[] {0, 1, 4}) Due.is("2: answers", x.shape(0, 1, a, 1), Due.BAD);
        for (int w : new int[] {0, -1, 1000001}) Due.is("2: whole", x.shape(0, 1, 2, w), Due.BAD);
        Due.holds("2: refused, so nothing changes", Seen.of(x).equals(before));
    }

    private static void promise3() {
        FarPairs x = new FarPairs();
        Due.is("3: missing", x.lose(0), Due.NO);
        x.corner(0, 16);
        x.corner(1, 16);
        Due.is("3: lose", x.lose(0), 0);
        Due.is("3: it is missing", x.about(0, 0), Due.NO);
        Due.is("3: the other one is not", x.about(1, 0), 2);
        String before = Seen.of(x);
        Due.is("3: missing again", x.lose(0), Due.NO);
        for (int t : NO_TABLES) Due.is("3: table", x.lose(t), Due.BAD);
        Due.holds("3: refused, so nothing changes", Seen.of(x).equals(before));
    }

    private static void promise4() {
        FarPairs x = new FarPairs();
        Due.is("4: missing stands ahead of the rows", x.cell(0, 99, 99, -1), Due.NO);
        x.shape(0, 2, 3, 10);
        Due.is("4: what it was", x.cell(0, 4, 8, 10), 0);
        Due.is("4: what it was then", x.cell(0, 4, 8, 0), 10);
        Due.is("4: it is v", x.cell(0, 4, 8, 7), 0);
        Due.is("4: it is v", x.chance(0, 4, 8), 7);
        Due.is("4: only one cell", x.about(0, 3), 1);
        String before = Seen.of(x);
        for (int t : NO_TABLES) Due.is("4: table", x.cell(t, 0, 0, 0), Due.BAD);
        for (int row : new int[] {-1, 2, 5, 6, 8, 9, -3}) Due.is("4: questions " + row, x.cell(0, row, 0, 1), Due.BAD);
        for (int row : new int[] {-1, 9, 27}) Due.is("4: answers " + row, x.cell(0, 0, row, 1), Due.BAD);
        for (int v : new int[] {-1, 11, 1000000}) Due.is("4: v " + v, x.cell(0, 0, 0, v), Due.BAD);
        Due.holds("4: refused, so nothing changes", Seen.of(x).equals(before));
        x.shape(0, 3, 2, 10);
        for (int row : new int[] {2, 5, 6, 7, 8}) Due.is("4: answers " + row, x.cell(0, 0, row, 1), Due.BAD);
        Due.is("4: the last cell", x.cell(0, 8, 4, 1), 0);
    }

    private static void promise5() {
        FarPairs x = new FarPairs();
        // F = 2 * 1 + 3 * 0 + 9 * 0 = 2, G = 0 * 1 + 1 * 3 + 2 * 9 = 21.
        Due.is("5: sure", x.sure(3, 3, 3, 2 * 27 + 21), 0);
        int[] first = {2, 0, 0};
        int[] other = {0, 1, 2};
        for (int questions = 0; questions < 9; questions++)
            for (int answers = 0; answers < 9; answers++) {
                boolean both = first[questions / 3] == answers / 3 && other[questions % 3] == answers % 3;
                Due.is("5: cell", x.chance(3, questions, answers), both ? 1 : 0);
            }
        Due.is("5: whole", x.about(3, 2), 1);
        Due.is("5: greatest number", x.sure(3, 1, 2, 3), 0);
        Due.is("5: its shape", x.about(3, 0), 1);
        Due.is("5: its shape", x.about(3, 1), 2);
        Due.is("5: its cell", x.chance(3, 0, 4), 1);
        String before = Seen.of(x);
        for (int t : NO_TABLES) Due.is("5: table", x.sure(t, 1, 2, 0), Due.BAD);
        Due.is("5: questions", x.sure(0, 0, 2, 0), Due.BAD);
        Due.is("5: questions", x.sure(0, 4, 2, 0), Due.BAD);
        Due.is("5: answers", x.sure(0, 1, 1, 0), Due.BAD);
        Due.is("5: answers", x.sure(0, 1, 4, 0), Due.BAD);
        Due.is("5: n", x.sure(0, 1, 2, -1), Due.BAD);
        int[][] shapes = {{1, 2, 4}, {1, 3, 9}, {2, 2, 16}, {2, 3, 81}, {3, 2, 64}, {3, 3, 729}};
        for (int[] s : shapes) Due.is("5: n too large", x.sure(0, s[0], s[1], s[2]), Due.BAD);
        Due.holds("5: refused, so nothing changes", Seen.of(x).equals(before));
        for (int[] s : shapes) Due.is("5: greatest n", x.sure(0, s[0], s[1], s[2] - 1), 0);
    }

    private static void promise6() {
        FarPairs x = new FarPairs();
        for (int k = 0; k < 16; k++) {
            Due.is("6: corner", x.corner(0, k), 0);
            Due.is("6: it is sure", x.number(0), k);
            Due.is("6: its whole", x.about(0, 2), 1);
        }
        for (int l = 0; l < 2; l++)
            for (int m = 0; m < 2; m++) for (int n = 0; n < 2; n++) boxCorner(x, l, m, n);
        String before = Seen.of(x);
        for (int t : NO_TABLES) Due.is("6: table", x.corner(t, 0), Due.BAD);
        for (int k : new int[] {-1, 24}) Due.is("6: k", x.corner(0, k), Due.BAD);
        Due.holds("6: refused, so nothing changes", Seen.of(x).equals(before));
    }

    private static void boxCorner(FarPairs x, int l, int m, int n) {
        Due.is("6: corner", x.corner(0, 16 + 4 * l + 2 * m + n), 0);
        Due.is("6: whole", x.about(0, 2), 2);
        for (int i = 0; i < 16; i++) {
            int p = i / 8, q = i / 4 % 2, a = i / 2 % 2, b = i % 2;
            boolean parity = (a + b) % 2 == (p * q + l * p + m * q + n) % 2;
            Due.is("6: cell", x.chance(0, 3 * p + q, 3 * a + b), parity ? 1 : 0);
        }
    }

    private static void promise7() {
        FarPairs x = new FarPairs();
        Due.is("7: what stands ahead of missing", x.about(0, 4), Due.BAD);
        Due.is("7: missing", x.about(0, 3), Due.NO);
        x.shape(0, 3, 2, 77);
        x.cell(0, 8, 4, 1);
        x.cell(0, 1, 3, 77);
        x.cell(0, 1, 4, 0);
        long[] want = {3, 2, 77, 2};
        for (int what = 0; what < 4; what++) Due.is("7: about " + what, x.about(0, what), want[what]);
        for (int t : NO_TABLES) Due.is("7: table", x.about(t, 0), Due.BAD);
        for (int what : new int[] {-1, 4}) Due.is("7: what", x.about(0, what), Due.BAD);
    }

    private static void promise8() {
        FarPairs x = new FarPairs();
        Due.is("8: missing stands ahead of the rows", x.chance(0, -1, -1), Due.NO);
        x.shape(0, 2, 2, 9);
        x.cell(0, 1, 3, 4);
        Due.is("8: chance", x.chance(0, 1, 3), 4);
        Due.is("8: another", x.chance(0, 3, 1), 0);
        for (int t : NO_TABLES) Due.is("8: table", x.chance(t, 0, 0), Due.BAD);
        for (int row : new int[] {-1, 2, 5, 6, 7, 8, 9}) {
            Due.is("8: questions", x.chance(0, row, 0), Due.BAD);
            Due.is("8: answers", x.chance(0, 0, row), Due.BAD);
        }
    }

    /** Each cell that is looked at has a number of its own, so that a wrong place shows. */
    private static FarPairs numbered(int q, int a) {
        FarPairs x = new FarPairs();
        x.shape(0, q, a, 1000);
        for (int i = 0; i < 81; i++) x.cell(0, i / 9, i % 9, i + 1);
        return x;
    }

    private static void promise9() {
        for (int person = 0; person < 2; person++)
            for (int question = 0; question < 3; question++)
                for (int a = 0; a < 3; a++)
                    for (int b = 0; b < 3; b++) {
                        FarPairs x = numbered(3, 3);
                        Due.is("9: swap", x.swap(0, 3 * person + question, a, b), 0);
                        Due.is("9: a change, even of answers alike", x.count(3), 6);
                        swapped(x, person, question, a, b);
                    }
    }

    private static void swapped(FarPairs x, int person, int question, int a, int b) {
        for (int i = 0; i < 81; i++) {
            int[] at = {i / 27, i / 9 % 3, i / 3 % 3, i % 3};
            if (at[person] == question) {
                int own = at[2 + person];
                at[2 + person] = own == a ? b : own == b ? a : own;
            }
            long want = 27 * at[0] + 9 * at[1] + 3 * at[2] + at[3] + 1;
            Due.is("9: cell", x.chance(0, i / 9, i % 9), want);
        }
    }

    private static void promise9Refusals() {
        FarPairs x = numbered(2, 2);
        String before = Seen.of(x);
        for (int t : NO_TABLES) Due.is("9: table", x.swap(t, 0, 0, 0), Due.BAD);
        Due.is("9: missing stands ahead of the others", x.swap(1, -1, 9, 9), Due.NO);
        for (int p : new int[] {-1, 2, 5, 6, 7}) Due.is("9: person, question " + p, x.swap(0, p, 0, 1), Due.BAD);
        for (int a : new int[] {-1, 2, 3}) {
            Due.is("9: first answer", x.swap(0, 0, a, 0), Due.BAD);
            Due.is("9: second answer", x.swap(0, 0, 0, a), Due.BAD);
        }
        Due.holds("9: refused, so nothing changes", Seen.of(x).equals(before));
    }

    private static void promise10() {
        FarPairs x = numbered(2, 2);
        Due.is("10: people", x.turn(0, 0), 0);
        // x 0, y 1, a 0, b 1 has what stood at x 1, y 0, a 1, b 0: 27 + 3 + 1.
        Due.is("10: people", x.chance(0, 1, 1), 31);
        Due.is("10: people", x.chance(0, 3, 3), 11);
        Due.is("10: people back", x.turn(0, 0), 0);
        Due.is("10: first one's questions", x.turn(0, 1), 0);
        Due.is("10: first one's questions", x.chance(0, 1, 3), 27 + 9 + 3 + 1);
        x.turn(0, 1);
        Due.is("10: other one's questions", x.turn(0, 2), 0);
        Due.is("10: other one's questions", x.chance(0, 1, 3), 3 + 1);
        String before = Seen.of(x);
        for (int t : NO_TABLES) Due.is("10: table", x.turn(t, 0), Due.BAD);
        Due.is("10: missing stands ahead of how", x.turn(1, 3), Due.NO);
        for (int how : new int[] {-1, 3}) Due.is("10: how", x.turn(0, how), Due.BAD);
        Due.holds("10: refused, so nothing changes", Seen.of(x).equals(before));
        FarPairs one = numbered(1, 3);
        Due.is("10: one question", one.turn(0, 1), 0);
        for (int i = 0; i < 9; i++) Due.is("10: one question stays", one.chance(0, 0, i), i + 1);
        Due.is("10: a change all the same", one.count(3), 6);
    }

    private static void promise10OfThree() {
        for (int how = 0; how < 3; how++) {
            FarPairs x = numbered(3, 3);
            x.turn(0, how);
            for (int i = 0; i < 81; i++) {
                int p = i / 27, q = i / 9 % 3, a = i / 3 % 3, b = i % 3;
                int from = how == 0 ? 27 * q + 9 * p + 3 * b + a : how == 1 ? 27 * (2 - p) + i % 27
                    : 27 * p + 9 * (2 - q) + i % 9;
                Due.is("10: of three, how " + how, x.chance(0, i / 9, i % 9), from + 1);
            }
        }
    }

    private static void promise11() {
        FarPairs x = new FarPairs();
        x.shape(0, 1, 2, 4);
        x.shape(1, 1, 2, 6);
        Due.is("11: all chances 0", x.same(0, 1), 1);
        x.cell(0, 0, 1, 2);
        x.cell(1, 0, 1, 3);
        Due.is("11: halves", x.same(0, 1), 1);
        Due.is("11: itself", x.same(1, 1), 1);
        x.cell(1, 0, 4, 1);
        Due.is("11: another chance", x.same(0, 1), 0);
        Due.is("11: another chance, turned about", x.same(1, 0), 0);
        x.shape(2, 1, 3, 4);
        x.cell(2, 0, 1, 2);
        Due.is("11: another number of answers", x.same(0, 2), 0);
        x.shape(3, 2, 2, 4);
        x.cell(3, 0, 1, 2);
        Due.is("11: another number of questions", x.same(0, 3), 0);
        x.shape(4, 1, 2, 1000000);
        x.shape(5, 1, 2, 999999);
        x.cell(4, 0, 0, 999999);
        x.cell(5, 0, 0, 999998);
        Due.is("11: near, not alike", x.same(4, 5), 0);
        x.shape(5, 1, 2, 999998);
        x.cell(4, 0, 0, 500000);
        x.cell(5, 0, 0, 499999);
        Due.is("11: great halves", x.same(4, 5), 1);
        for (int t : NO_TABLES) {
            Due.is("11: first table", x.same(t, 7), Due.BAD);
            Due.is("11: second table", x.same(7, t), Due.BAD);
        }
        Due.is("11: second missing", x.same(0, 7), Due.NO);
        Due.is("11: first missing", x.same(7, 0), Due.NO);
    }
}
