import java.util.function.Consumer;

/** The edges that promises 25 to 27 name: one test for each, named by the promise. */
public final class SharesEdgesTest {
    private static final Consumer<FarPairs> EMPTY = Edges::empty;
    private static final Consumer<FarPairs> SOME = Edges::some;
    private static final Consumer<FarPairs> THIRTY = SharesEdgesTest::thirty;
    private static final int LEAST = Integer.MIN_VALUE;
    private static final int GREATEST = Integer.MAX_VALUE;
    private static final int[][] SHAPES = {{1, 2, 4}, {1, 3, 9}, {2, 2, 16}, {2, 3, 81}, {3, 2, 64}, {3, 3, 729}};

    public static void main(String[] args) throws Exception {
        Edges.run(SharesEdgesTest.class, "promise", 25, 27);
        Due.end();
    }

    /** Full: shares of numbers 0, 25, .. 725, each its number and 1. */
    private static void thirty(FarPairs x) {
        x.begin(3, 3);
        for (int i = 0; i < 30; i++) x.share(25 * i, 25 * i + 1);
    }

    // ---- 25: share

    static void promise25NumbersOfEachShape() {
        for (int[] s : SHAPES) {
            Consumer<FarPairs> made = x -> {
                x.begin(s[0], s[1]);
                x.share(1, 5);
            };
            Edges.takenEach("n", made, (x, n) -> x.share(n, 1), 0, 0, s[2] - 1);
            Edges.refusedEach("n", made, (x, n) -> x.share(n, 1), Due.BAD, -1, s[2], LEAST, GREATEST);
            Edges.refusedEach("n, with no share", made, (x, n) -> x.share(n, 0), Due.BAD, -1, s[2]);
        }
    }

    static void promise25FromZeroToAMillion() {
        Edges.takenEach("v", SOME, (x, v) -> x.share(0, v), 3, 0, 1, 1000000);
        Edges.takenEach("v", SOME, (x, v) -> x.share(7, v), 0, 0, 1, 1000000);
        Edges.refusedEach("v", SOME, (x, v) -> x.share(0, v), Due.BAD, -1, 1000001, LEAST, GREATEST);
        Edges.refused("both", SOME, x -> x.share(16, -1), Due.BAD);
    }

    static void promise25WhatItWas() {
        FarPairs x = new FarPairs();
        Due.is("none", x.share(15, 1000000), 0);
        Due.is("the greatest", x.share(15, 1), 1000000);
        Due.is("the least", x.share(15, 0), 1);
        Due.is("none again", x.share(15, 0), 0);
        Due.is("how many", x.count(1), 0);
    }

    static void promise25TheThirtiethIsTaken() {
        FarPairs x = new FarPairs();
        x.begin(3, 3);
        for (int n = 0; n < 29; n++) x.share(n, 1);
        Due.is("the thirtieth", x.share(728, 1000000), 0);
        Due.is("how many", x.count(1), 30);
        Due.is("together", x.count(2), 1000029);
    }

    static void promise25TheThirtyFirstIsNot() {
        Edges.refusedEach("n", THIRTY, (x, n) -> x.share(n, 1), Due.FULL, 1, 728);
        Edges.refusedEach("v", THIRTY, (x, v) -> x.share(1, v), Due.FULL, 1, 1000000);
    }

    static void promise25BadStandsAheadOfFull() {
        Edges.refusedEach("v", THIRTY, (x, v) -> x.share(1, v), Due.BAD, -1, 1000001);
        Edges.refusedEach("n", THIRTY, (x, n) -> x.share(n, 1), Due.BAD, -1, 729);
    }

    static void promise25FullAndNoShareIsTaken() {
        FarPairs x = new FarPairs();
        thirty(x);
        Due.is("0 of another", x.share(1, 0), 0);
        Due.is("still thirty", x.count(1), 30);
        Due.is("still full", x.share(1, 1), Due.FULL);
    }

    static void promise25FullAndOneOfTheThirtyIsTaken() {
        for (int n : new int[] {0, 25, 725}) {
            FarPairs x = new FarPairs();
            thirty(x);
            Due.is("another share of " + n, x.share(n, 1000000), n + 1);
            Due.is("still thirty", x.count(1), 30);
            Due.is("that share", x.share(n, n + 1), 1000000);
        }
    }

    static void promise25RoomAgainAfterOneIsZero() {
        for (int n : new int[] {0, 350, 725}) {
            FarPairs x = new FarPairs();
            thirty(x);
            Due.is("away with " + n, x.share(n, 0), n + 1);
            Due.is("29", x.count(1), 29);
            Due.is("another", x.share(728, 9), 0);
            Due.is("full again", x.share(n, 1), Due.FULL);
            for (int i = 0; i < 30; i++)
                if (25 * i != n) Due.is("the others stay", x.share(25 * i, 25 * i + 1), 25 * i + 1);
            Due.is("the new one stays", x.share(728, 9), 9);
        }
    }

    static void promise25AllAwayAndFullAgain() {
        FarPairs x = new FarPairs();
        thirty(x);
        for (int i = 29; i >= 0; i--) Due.is("away", x.share(25 * i, 0), 25 * i + 1);
        Due.is("none", x.count(1), 0);
        Due.is("together", x.count(2), 0);
        for (int n = 0; n < 30; n++) Due.is("anew", x.share(n, 2), 0);
        Due.is("full", x.share(30, 1), Due.FULL);
    }

    static void promise25IsNoChange() {
        FarPairs x = new FarPairs();
        x.share(0, 1);
        Due.is("kept", x.count(3), 0);
        Due.is("undo", x.undo(), Due.NO);
        Due.is("it stays", x.count(1), 1);
    }

    // ---- 26: mixed

    static void promise26Table() {
        Edges.tables(x -> x.share(9, 7), FarPairs::mixed, 1);
    }

    static void promise26BadStandsAheadOfNo() {
        Edges.refusedEach("table", EMPTY, FarPairs::mixed, Due.BAD, Edges.NO_TABLES);
    }

    static void promise26AllSharesAreZero() {
        Edges.refusedEach("never any", EMPTY, FarPairs::mixed, Due.NO, 0, 7);
        Edges.refusedEach("put back to 0", x -> {
            x.corner(0, 16);
            x.share(3, 5);
            x.share(3, 0);
        }, FarPairs::mixed, Due.NO, 0, 7);
        Edges.refusedEach("begun anew", x -> {
            x.share(3, 5);
            x.begin(2, 2);
        }, FarPairs::mixed, Due.NO, 0, 7);
    }

    private static Consumer<FarPairs> shares(int... vs) {
        return x -> {
            x.corner(7, 17);
            for (int n = 0; n < vs.length; n++) x.share(n, vs[n]);
        };
    }

    static void promise26TheWholeIsAMillionAndOneMore() {
        Edges.takenEach("a million", shares(999999, 1), FarPairs::mixed, 1000000, 0, 7);
        Edges.refusedEach("one more", shares(1000000, 1), FarPairs::mixed, Due.FULL, 0, 7);
        Edges.refusedEach("BAD stands ahead of FULL", shares(1000000, 1), FarPairs::mixed, Due.BAD, Edges.NO_TABLES);
    }

    static void promise26DividedFirstAndThenLookedAt() {
        Edges.takenEach("2000000 by 2", shares(999998, 1000000, 2), FarPairs::mixed, 1000000, 0);
        Edges.refusedEach("2000002 by 2", shares(1000000, 1000000, 2), FarPairs::mixed, Due.FULL, 0);
        Edges.takenEach("3000000 by a million", shares(1000000, 1000000, 1000000), FarPairs::mixed, 3, 0);
    }

    static void promise26DividedByWhatDividesCellsNotShares() {
        // F is 0 .. 3 and G is 0: the first one answers each question by 0 and 1 with two of the four shares.
        int[] taken = {1, 999999, 1, 999999}, refused = {1, 999999, 3, 999999};
        FarPairs x = new FarPairs();
        for (int f = 0; f < 4; f++) x.share(4 * f, taken[f]);
        Due.is("odd shares, even cells", x.mixed(0), 1000000);
        Due.is("2 by 2", x.chance(0, 0, 0), 1);
        Due.is("a million by 2", x.chance(0, 3, 0), 500000);
        Edges.refused("2000002 by 2", y -> {
            for (int f = 0; f < 4; f++) y.share(4 * f, refused[f]);
        }, y -> y.mixed(0), Due.FULL);
    }

    static void promise26OneShareAndThirty() {
        FarPairs x = new FarPairs();
        x.share(11, 1000000);
        Due.is("one", x.mixed(0), 1);
        Due.is("it is sure", x.number(0), 11);
        x.begin(3, 3);
        for (int n = 0; n < 30; n++) x.share(n, 1000000);
        Due.is("thirty", x.mixed(0), 30);
        // F is 0 with all of G's 27 numbers, and 1 with the first three of them.
        Due.is("row 0, answers 0, 0", x.chance(0, 0, 0), 9);
        Due.is("row 0, answers 1, 0", x.chance(0, 0, 3), 1);
    }

    static void promise26AGreaterTableStoodThere() {
        FarPairs x = new FarPairs();
        x.shape(0, 3, 3, 2);
        for (int i = 0; i < 81; i++) x.cell(0, i / 9, i % 9, 2);
        x.begin(1, 2);
        x.share(3, 4);
        Due.is("mixed", x.mixed(0), 1);
        Due.is("questions", x.about(0, 0), 1);
        Due.is("cells", x.about(0, 3), 1);
        x.undo();
        Due.is("taken back", x.about(0, 3), 81);
    }

    // ---- 27: makes

    static void promise27Table() {
        Edges.tables(x -> {
            x.corner(0, 9);
            x.corner(7, 9);
            x.share(9, 1000000);
        }, FarPairs::makes, 0);
    }

    static void promise27BadStandsAheadOfNo() {
        Edges.refusedEach("no shares", EMPTY, FarPairs::makes, Due.BAD, Edges.NO_TABLES);
    }

    static void promise27Missing() {
        Edges.refusedEach("missing", SOME, FarPairs::makes, Due.NO, 5, 7);
    }

    static void promise27AnotherShape() {
        Edges.refusedEach("shape", SOME, FarPairs::makes, Due.NO, 1, 2, 4);
        for (int[] law : SHAPES)
            for (int[] s : SHAPES) {
                FarPairs x = new FarPairs();
                x.begin(law[0], law[1]);
                x.share(0, 3);
                x.sure(0, s[0], s[1], 0);
                Due.is("makes", x.makes(0), law == s ? 0 : Due.NO);
            }
    }

    static void promise27AllSharesAreZero() {
        Edges.refused("none", x -> x.corner(0, 0), x -> x.makes(0), Due.NO);
        Edges.refused("put back to 0", x -> {
            x.corner(0, 0);
            x.share(0, 5);
            x.share(0, 0);
        }, x -> x.makes(0), Due.NO);
        Edges.refused("and an empty table", x -> x.shape(0, 2, 2, 1), x -> x.makes(0), Due.NO);
    }

    /** The share is that of number 0; the table has it but for one cell. */
    private static long madeBut(int q, int a, int row, int answers, int v) {
        FarPairs x = new FarPairs();
        x.begin(q, a);
        x.share(0, 1);
        x.shape(0, q, a, 1000000);
        for (int i = 0; i < 9; i++) x.cell(0, i, 0, 1000000);
        x.cell(0, row, answers, v);
        return x.makes(0);
    }

    static void promise27TheFirstAndTheLastCell() {
        Due.is("all alike", madeBut(3, 3, 0, 0, 1000000), 0);
        for (int[] s : SHAPES) {
            int row = 4 * (s[0] - 1), answers = 4 * (s[1] - 1);
            Due.is("the first, less by a millionth", madeBut(s[0], s[1], 0, 0, 999999), 1);
            Due.is("the last, more by a millionth", madeBut(s[0], s[1], row, answers, 1), 1 + 9 * row + answers);
        }
    }

    static void promise27EachCellOfThree() {
        for (int i = 0; i < 81; i++) Due.is("cell " + i, madeBut(3, 3, i / 9, i % 9, 7), 1 + i);
    }

    static void promise27TheFirstOfSeveral() {
        FarPairs x = new FarPairs();
        x.share(0, 2);
        x.shape(0, 2, 2, 4);
        for (int row : new int[] {0, 1, 3, 4}) x.cell(0, row, 0, 4);
        x.cell(0, 4, 4, 1);
        Due.is("the last", x.makes(0), 1 + 40);
        x.cell(0, 4, 1, 1);
        Due.is("b comes ahead", x.makes(0), 1 + 37);
        x.cell(0, 3, 4, 1);
        Due.is("x, y come ahead of a, b", x.makes(0), 1 + 31);
        x.cell(0, 1, 4, 1);
        Due.is("y", x.makes(0), 1 + 13);
    }

    static void promise27SharesTooGreatForATable() {
        FarPairs x = new FarPairs();
        x.begin(3, 3);
        for (int n = 0; n < 30; n++) x.share(n, 1000000 - n);
        x.sure(0, 3, 3, 0);
        Due.is("no table can be mixed", x.mixed(1), Due.FULL);
        Due.is("the first cell", x.makes(0), 1);
    }

    static void promise27ChangesNothing() {
        FarPairs x = new FarPairs();
        Edges.some(x);
        x.makes(0);
        Due.is("shares", x.count(2), 1000003);
        Due.is("kept", x.count(3), 6);
        Due.is("whole", x.about(0, 2), 2);
    }
}
