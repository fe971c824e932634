/** Promises 12 to 17. */
public final class KindsTest {
    private static final int[] NO_TABLES = {-1, 8, Integer.MIN_VALUE, Integer.MAX_VALUE};

    public static void main(String[] args) {
        promise12();
        promise12OfTwo();
        promise12Large();
        promise13();
        promise13OfThree();
        promise14();
        promise15();
        promise16();
        promise17();
        Due.end();
    }

    private static void kinds(String what, FarPairs x, int t, long... want) {
        for (int kind = 0; kind < 5; kind++) Due.is(what + ", kind " + kind, x.isOf(t, kind), want[kind]);
    }

    /** All chances alike. */
    private static void even(FarPairs x, int t, int q, int a) {
        x.shape(t, q, a, a * a);
        for (int i = 0; i < 81; i++) x.cell(t, i / 9, i % 9, 1);
    }

    private static void promise12() {
        FarPairs x = new FarPairs();
        x.shape(0, 1, 3, 10);
        kinds("12: empty", x, 0, 1, 0, 0, 0, 0);
        x.cell(0, 0, 2, 4);
        x.cell(0, 0, 7, 6);
        kinds("12: one question", x, 0, 1, 1, 1, 1, 0);
        x.cell(0, 0, 7, 7);
        kinds("12: too much", x, 0, 1, 0, 0, 0, 0);
        x.cell(0, 0, 7, 10);
        x.cell(0, 0, 2, 0);
        kinds("12: sure", x, 0, 1, 1, 1, 1, 1);
        for (int t : NO_TABLES) Due.is("12: table", x.isOf(t, 0), Due.BAD);
        for (int kind : new int[] {-1, 5}) {
            Due.is("12: kind", x.isOf(0, kind), Due.BAD);
            Due.is("12: kind stands ahead of missing", x.isOf(1, kind), Due.BAD);
        }
        for (int kind = 0; kind < 5; kind++) Due.is("12: missing", x.isOf(1, kind), Due.NO);
    }

    private static void promise12OfTwo() {
        FarPairs x = new FarPairs();
        for (int k = 0; k < 16; k++) {
            x.corner(0, k);
            kinds("12: corner", x, 0, 1, 1, 1, 1, 1);
        }
        for (int k = 16; k < 24; k++) {
            x.corner(0, k);
            kinds("12: corner", x, 0, 1, 1, 1, 0, 0);
        }
        even(x, 1, 2, 2);
        kinds("12: even", x, 1, 1, 1, 1, 1, 0);
        x.blend(0, 1, 2, 1001 + 1);
        kinds("12: just at the bound of a corner law", x, 2, 1, 1, 1, 1, 0);
        x.blend(0, 1, 2, 1001 * 501 + 499);
        kinds("12: just above it", x, 2, 1, 1, 1, 0, 0);
        x.blend(0, 1, 2, 1001 * 499 + 501);
        kinds("12: just below it", x, 2, 1, 1, 1, 1, 0);
        x.shape(3, 2, 2, 1);
        for (int row : new int[] {0, 1, 3}) x.cell(3, row, 0, 1);
        x.cell(3, 4, 4, 1);
        kinds("12: answers show", x, 3, 1, 1, 0, 0, 0);
        x.cell(3, 4, 4, 0);
        kinds("12: a row is empty", x, 3, 1, 0, 0, 0, 0);
    }

    private static void promise12Large() {
        FarPairs x = new FarPairs();
        int[][] shapes = {{2, 3}, {3, 2}, {3, 3}};
        for (int[] s : shapes) {
            even(x, 0, s[0], s[1]);
            kinds("12: even and large", x, 0, 1, 1, 1, Due.LARGE, 0);
            x.sure(0, s[0], s[1], 1);
            kinds("12: sure and large", x, 0, 1, 1, 1, 1, 1);
            x.sure(1, s[0], s[1], 0);
            kinds("12: sure number 0 and large", x, 1, 1, 1, 1, 1, 1);
            x.cell(0, 0, 0, 0);
            x.cell(0, 0, 1, 0);
            kinds("12: not proper and large", x, 0, 1, 0, 0, 0, 0);
            x.cell(0, 0, 4, 1);
            kinds("12: answers show, and large", x, 0, 1, 1, 0, 0, 0);
        }
        for (int a = 2; a < 4; a++) {
            even(x, 0, 1, a);
            kinds("12: one question", x, 0, 1, 1, 1, 1, 0);
        }
    }

    private static void promise13() {
        FarPairs x = new FarPairs();
        x.corner(0, 16);
        Due.is("13: silent", x.who(0), Due.NONE);
        x.cell(0, 0, 0, 0);
        Due.is("13: not proper", x.who(0), Due.NO);
        Due.is("13: missing", x.who(1), Due.NO);
        for (int t : NO_TABLES) Due.is("13: table", x.who(t), Due.BAD);
        x.sure(2, 2, 2, 0);
        x.cell(2, 4, 0, 0);
        x.cell(2, 4, 1, 1);
        Due.is("13: the other one's answer 0 to question 1 shows question 1", x.who(2), 27 + 9 + 1);
        x.turn(2, 0);
        Due.is("13: turned about", x.who(2), 9 + 1);
        x.turn(2, 1);
        Due.is("13: question 0 shows it", x.who(2), 1);
        even(x, 3, 1, 3);
        Due.is("13: one question", x.who(3), Due.NONE);
    }

    private static void promise13OfThree() {
        FarPairs x = new FarPairs();
        x.sure(0, 3, 3, 0);
        x.cell(0, 8, 0, 0);
        x.cell(0, 8, 1, 1);
        Due.is("13: the other one's question 2, shown 2", x.who(0), 27 + 18 + 2);
        x.turn(0, 2);
        // The row of questions that differs is now x 2, y 0.
        Due.is("13: the other one's question 0, shown 2", x.who(0), 27 + 2);
        x.turn(0, 1);
        // Now question 0 of the first is unlike 1 and 2.
        Due.is("13: least question that is unlike", x.who(0), 27 + 1);
        x.shape(1, 3, 3, 5);
        for (int row = 0; row < 9; row++) x.cell(1, row, 0, 5);
        x.cell(1, 4, 0, 3);
        x.cell(1, 4, 3, 2);
        Due.is("13: the first stands ahead", x.who(1), 9 + 1);
        for (int row = 3; row < 6; row++) {
            x.cell(1, row, 0, 2);
            x.cell(1, row, 3, 3);
        }
        Due.is("13: the first is silent at y, the other one too", x.who(1), Due.NONE);
        x.cell(1, 5, 3, 2);
        x.cell(1, 5, 6, 1);
        Due.is("13: answer 1, shown 2", x.who(1), 9 + 3 + 2);
    }

    private static void promise14() {
        FarPairs x = new FarPairs();
        int[][] shapes = {{1, 2, 4}, {1, 3, 9}, {2, 2, 16}, {2, 3, 81}, {3, 2, 64}, {3, 3, 729}};
        for (int[] s : shapes) {
            for (int n = 0; n < s[2]; n++) {
                FarPairs each = new FarPairs();
                each.sure(0, s[0], s[1], n);
                Due.is("14: number", each.number(0), n);
            }
        }
        x.shape(0, 1, 2, 30);
        x.cell(0, 0, 3, 30);
        Due.is("14: another whole", x.number(0), 2);
        x.cell(0, 0, 3, 29);
        Due.is("14: too little", x.number(0), Due.NONE);
        x.cell(0, 0, 3, 30);
        x.cell(0, 0, 1, 1);
        Due.is("14: too much", x.number(0), Due.NONE);
        x.sure(0, 2, 2, 0);
        x.cell(0, 4, 0, 0);
        x.cell(0, 4, 4, 1);
        Due.is("14: answers that hang on the other's question", x.number(0), Due.NONE);
        Due.is("14: missing", x.number(1), Due.NO);
        for (int t : NO_TABLES) Due.is("14: table", x.number(t), Due.BAD);
    }

    private static void promise15() {
        FarPairs x = new FarPairs();
        x.shape(0, 2, 2, 10);
        // E(0, 0) = 10, E(0, 1) = 4, E(1, 0) = -6, E(1, 1) = 2.
        int[][] agree = {{0, 10}, {1, 7}, {3, 2}, {4, 6}};
        for (int[] r : agree) {
            x.cell(0, r[0], 0, r[1] / 2);
            x.cell(0, r[0], 4, r[1] - r[1] / 2);
            x.cell(0, r[0], 3, 10 - r[1]);
        }
        long[] want = {4 - 6 + 2 - 10, 10 - 6 + 2 - 4, 10 + 4 + 2 + 6, 10 + 4 - 6 - 2};
        for (int i = 0; i < 4; i++) {
            Due.is("15: law", x.law(0, 2 * i), want[i]);
            Due.is("15: law turned in sign", x.law(0, 2 * i + 1), -want[i]);
        }
        for (int t : NO_TABLES) Due.is("15: table", x.law(t, 0), Due.BAD);
        for (int k : new int[] {-1, 8}) {
            Due.is("15: k", x.law(0, k), Due.BAD);
            Due.is("15: k stands ahead of missing", x.law(1, k), Due.BAD);
        }
        Due.is("15: missing", x.law(1, 0), Due.NO);
        x.cell(0, 0, 0, 4);
        Due.is("15: not proper", x.law(0, 0), Due.NO);
        int[][] shapes = {{1, 2}, {2, 3}, {3, 2}};
        for (int[] s : shapes) {
            x.sure(2, s[0], s[1], 0);
            Due.is("15: shape", x.law(2, 0), Due.NO);
        }
    }

    private static void promise16() {
        FarPairs x = new FarPairs();
        // Of corner 16 + 4 l + 2 m + n the sign of E(x, y) is that of x y + l x + m y + n; one sign stands out.
        int[] want = {6, 7, 2, 3, 4, 5, 1, 0};
        for (int k = 0; k < 8; k++) {
            x.corner(0, 16 + k);
            Due.is("16: corner " + (16 + k), x.broken(0), want[k]);
        }
        even(x, 1, 2, 2);
        Due.is("16: even", x.broken(1), Due.NONE);
        x.corner(0, 16);
        x.blend(0, 1, 2, 1001 + 1);
        Due.is("16: just at the bound", x.broken(2), Due.NONE);
        x.blend(0, 1, 2, 1001 * 501 + 499);
        Due.is("16: just above", x.broken(2), 6);
        for (int k = 0; k < 16; k++) {
            x.corner(0, k);
            Due.is("16: sure", x.broken(0), Due.NONE);
        }
        for (int t : NO_TABLES) Due.is("16: table", x.broken(t), Due.BAD);
        Due.is("16: missing", x.broken(7), Due.NO);
        x.sure(3, 3, 2, 0);
        Due.is("16: shape", x.broken(3), Due.NO);
        x.sure(3, 2, 3, 0);
        Due.is("16: shape", x.broken(3), Due.NO);
        x.cell(0, 0, 4, 0);
        Due.is("16: not proper", x.broken(0), Due.NO);
        x.cell(0, 0, 0, 1);
        Due.is("16: not silent", x.broken(0), Due.NO);
    }

    private static void nearIs(String what, FarPairs x, int t, long... want) {
        for (int i = 0; i < 4; i++) Due.is(what + " " + i, x.near(t, i / 2, i % 2), want[i]);
    }

    private static void promise17() {
        FarPairs x = new FarPairs();
        x.corner(0, 21);
        nearIs("17: corner", x, 0, 0, 1, 1, 2);
        even(x, 1, 2, 2);
        nearIs("17: even", x, 1, 1, 1, 0, 1);
        x.blend(0, 1, 2, 1001 + 1);
        nearIs("17: just at the bound", x, 2, 1, 1, 0, 1);
        // S is 3 wholes: (4 - 3) / 2 and (3 - 2) / 3.
        x.blend(0, 1, 2, 1001 * 3 + 1);
        nearIs("17: three quarters", x, 2, 1, 2, 1, 3);
        // S is 4 * 7 / 10 wholes: 1.2 / 2 and 0.8 / 2.8.
        x.blend(0, 1, 2, 1001 * 7 + 3);
        nearIs("17: seven tenths", x, 2, 3, 5, 2, 7);
        x.shape(4, 2, 2, 1000000);
        // E is 600000 in three rows, -600000 in the fourth: S is 2400000.
        for (int row : new int[] {0, 1, 3, 4}) {
            int agree = row == 4 ? 100000 : 400000;
            x.cell(4, row, 0, agree);
            x.cell(4, row, 4, agree);
            x.cell(4, row, 1, 500000 - agree);
            x.cell(4, row, 3, 500000 - agree);
        }
        nearIs("17: a great whole", x, 4, 4, 5, 1, 6);
        Due.is("16: a great whole", x.broken(4), 6);
        for (int t : NO_TABLES) Due.is("17: table", x.near(t, 0, 0), Due.BAD);
        for (int bad : new int[] {-1, 2}) {
            Due.is("17: what", x.near(0, bad, 0), Due.BAD);
            Due.is("17: part", x.near(0, 0, bad), Due.BAD);
            Due.is("17: what stands ahead of missing", x.near(7, bad, 0), Due.BAD);
        }
        Due.is("17: missing", x.near(7, 0, 0), Due.NO);
        x.sure(3, 3, 3, 0);
        Due.is("17: shape", x.near(3, 0, 0), Due.NO);
        x.sure(3, 1, 2, 0);
        Due.is("17: shape", x.near(3, 1, 1), Due.NO);
        x.cell(0, 4, 0, 1);
        Due.is("17: not proper", x.near(0, 0, 0), Due.NO);
        x.sure(0, 2, 2, 0);
        x.cell(0, 4, 0, 0);
        x.cell(0, 4, 4, 1);
        Due.is("17: not silent", x.near(0, 0, 0), Due.NO);
    }
}
