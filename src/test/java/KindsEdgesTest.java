import java.util.function.Consumer;

/** The edges that promises 12 to 17 name: one test for each, named by the promise. */
public final class KindsEdgesTest {
    private static final Consumer<FarPairs> EMPTY = Edges::empty;
    private static final Consumer<FarPairs> SOME = Edges::some;
    private static final Consumer<FarPairs> BOTH_SURE = Edges.both((x, t) -> x.corner(t, 9));
    private static final Consumer<FarPairs> BOTH_BROKEN = Edges.both((x, t) -> x.corner(t, 16));
    private static final int LEAST = Integer.MIN_VALUE;
    private static final int GREATEST = Integer.MAX_VALUE;
    private static final int[] ROWS_OF_TWO = {0, 1, 3, 4};
    private static final int[][] NOT_TWO_BY_TWO = {{1, 2}, {1, 3}, {2, 3}, {3, 2}, {3, 3}};

    public static void main(String[] args) throws Exception {
        Edges.run(KindsEdgesTest.class, "promise", 12, 17);
        Due.end();
    }

    private static void kinds(String what, FarPairs x, long... want) {
        for (int kind = 0; kind < 5; kind++) Due.is(what + ", kind " + kind, x.isOf(0, kind), want[kind]);
    }

    /**
     * Table 0 of shape (2, 2): both answers are even for each, E is 4 * some - WHOLE in three rows and its opposite in
     * the last, so that corner law 6 is 4 times that. The WHOLE is even.
     */
    private static FarPairs silent(int whole, int some) {
        FarPairs x = new FarPairs();
        x.shape(0, 2, 2, whole);
        for (int row : ROWS_OF_TWO) {
            int agree = row == 4 ? whole / 2 - some : some;
            Edges.row(x, 0, row, agree, whole / 2 - agree, 0, whole / 2 - agree, agree);
        }
        return x;
    }

    private static FarPairs even(int q, int a) {
        FarPairs x = new FarPairs();
        x.shape(0, q, a, a * a);
        for (int i = 0; i < 81; i++) x.cell(0, i / 9, i % 9, 1);
        return x;
    }

    // ---- 12: isOf

    static void promise12Table() {
        Edges.tables(BOTH_SURE, (x, t) -> x.isOf(t, 4), 1);
    }

    static void promise12Kind() {
        Edges.takenEach("kind", BOTH_SURE, (x, kind) -> x.isOf(0, kind), 1, 0, 4);
        Edges.refusedEach("kind", SOME, (x, kind) -> x.isOf(0, kind), Due.BAD, -1, 5, LEAST, GREATEST);
    }

    static void promise12KindStandsAheadOfMissing() {
        Edges.refusedEach("kind", SOME, (x, kind) -> x.isOf(7, kind), Due.BAD, -1, 5);
        Edges.refusedEach("missing", SOME, (x, kind) -> x.isOf(7, kind), Due.NO, 0, 1, 2, 3, 4);
        Edges.refusedEach("lost", SOME, (x, kind) -> x.isOf(5, kind), Due.NO, 0, 3, 4);
    }

    static void promise12AnEmptyTableIsATableAlone() {
        for (int q = 1; q <= 3; q++)
            for (int a = 2; a <= 3; a++) {
                FarPairs x = new FarPairs();
                x.shape(0, q, a, 1);
                kinds("empty", x, 1, 0, 0, 0, 0);
            }
    }

    static void promise12ProperIsTheWholeInEachRow() {
        for (int row = 0; row < 9; row++) {
            FarPairs x = new FarPairs();
            x.shape(0, 3, 3, 1000000);
            for (int i = 0; i < 9; i++) Edges.row(x, 0, i, 999999, 0, 0, 0, 0, 0, 0, 0, 1);
            Due.is("just the whole", x.isOf(0, 1), 1);
            x.cell(0, row, 8, 0);
            Due.is("less by 1 in row " + row, x.isOf(0, 1), 0);
            x.cell(0, row, 8, 2);
            Due.is("more by 1 in row " + row, x.isOf(0, 1), 0);
        }
    }

    static void promise12SilentToTheLastOne() {
        FarPairs x = new FarPairs();
        x.shape(0, 2, 2, 1000000);
        for (int row : ROWS_OF_TWO) Edges.row(x, 0, row, 500000, 0, 0, 0, 500000);
        kinds("alike", x, 1, 1, 1, 1, 0);
        Edges.row(x, 0, 4, 499999, 1, 0, 0, 0);
        kinds("the other one's answers show it by 1", x, 1, 1, 0, 0, 0);
        Edges.row(x, 0, 4, 499999, 1, 0, 1, 499999);
        // E is 999996 in this row, a million in the others: law 6 is above 2 wholes by 4.
        kinds("made good", x, 1, 1, 1, 0, 0);
        x.cell(0, 4, 1, 0);
        x.cell(0, 4, 0, 500000);
        kinds("the first one's answers do not show it, the other one's do", x, 1, 1, 0, 0, 0);
    }

    static void promise12SilentOfTheThirdQuestion() {
        FarPairs x = new FarPairs();
        x.sure(0, 3, 2, 0);
        Due.is("sure", x.isOf(0, 2), 1);
        x.cell(0, 8, 0, 0);
        x.cell(0, 8, 3, 1);
        kinds("the last row shows", x, 1, 1, 0, 0, 0);
    }

    static void promise12LocalJustAtTwiceTheWhole() {
        // 4 * (4 * some - whole) is twice the whole with some = 3 / 8 of it.
        kinds("at it", silent(8, 3), 1, 1, 1, 1, 0);
        kinds("at it, of a great whole", silent(1000000, 375000), 1, 1, 1, 1, 0);
        kinds("above it", silent(1000000, 375001), 1, 1, 1, 0, 0);
        kinds("below it", silent(1000000, 374999), 1, 1, 1, 1, 0);
        kinds("turned in sign, at it", silent(1000000, 125000), 1, 1, 1, 1, 0);
        kinds("turned in sign, above it", silent(1000000, 124999), 1, 1, 1, 0, 0);
        kinds("all the way", silent(1000000, 500000), 1, 1, 1, 0, 0);
    }

    static void promise12LargeIsForKindThreeAlone() {
        for (int[] s : new int[][] {{2, 3}, {3, 2}, {3, 3}}) {
            FarPairs x = even(s[0], s[1]);
            kinds("even", x, 1, 1, 1, Due.LARGE, 0);
            Edges.refused("LARGE", y -> {
                y.shape(0, s[0], s[1], s[1] * s[1]);
                for (int i = 0; i < 81; i++) if (i % 9 / 3 < s[1]) y.cell(0, i / 9, i % 9, 1);
            }, y -> y.isOf(0, 3), Due.LARGE);
        }
    }

    static void promise12NotLargeIfItIsSure() {
        for (int[] s : new int[][] {{2, 3}, {3, 2}, {3, 3}}) {
            FarPairs x = new FarPairs();
            x.sure(0, s[0], s[1], 5);
            kinds("sure", x, 1, 1, 1, 1, 1);
            x.blend(0, 0, 0, 1001 * 1000 + 1000);
            kinds("sure", x, 1, 1, 1, 1, 1);
            x.sure(1, s[0], s[1], 6);
            x.blend(0, 1, 0, 1001 * 1000 + 1);
            kinds("sure no more", x, 1, 1, 1, Due.LARGE, 0);
        }
    }

    static void promise12SureNumberZeroAndTheLast() {
        for (int[] s : new int[][] {{1, 2, 3}, {1, 3, 8}, {2, 2, 15}, {2, 3, 80}, {3, 2, 63}, {3, 3, 728}})
            for (int n : new int[] {0, s[2]}) {
                FarPairs x = new FarPairs();
                x.sure(0, s[0], s[1], n);
                kinds("number " + n, x, 1, 1, 1, 1, 1);
            }
    }

    static void promise12NotLargeIfItIsNotSilent() {
        for (int[] s : new int[][] {{2, 3}, {3, 2}, {3, 3}}) {
            FarPairs x = even(s[0], s[1]);
            x.cell(0, 0, 0, 0);
            kinds("not proper", x, 1, 0, 0, 0, 0);
            x.cell(0, 0, 1, 2);
            kinds("proper", x, 1, 1, 0, 0, 0);
        }
    }

    static void promise12NotLargeWithOneQuestion() {
        for (int a = 2; a <= 3; a++) kinds("even", even(1, a), 1, 1, 1, 1, 0);
    }

    static void promise12NotLargeOfTwoByTwo() {
        kinds("even", even(2, 2), 1, 1, 1, 1, 0);
    }

    static void promise12SureOfAnyWhole() {
        FarPairs x = new FarPairs();
        x.shape(0, 2, 2, 1000000);
        for (int row : ROWS_OF_TWO) x.cell(0, row, 4, 1000000);
        kinds("the whole", x, 1, 1, 1, 1, 1);
        x.cell(0, 4, 4, 999999);
        kinds("less by 1", x, 1, 0, 0, 0, 0);
        x.cell(0, 4, 3, 1);
        kinds("made good otherwise", x, 1, 1, 0, 0, 0);
    }

    // ---- 13: who

    static void promise13Table() {
        Edges.tables(BOTH_SURE, FarPairs::who, Due.NONE);
    }

    static void promise13Missing() {
        Edges.refusedEach("missing", SOME, FarPairs::who, Due.NO, 5, 7);
    }

    static void promise13NotProper() {
        Edges.refusedEach("not proper", SOME, FarPairs::who, Due.NO, 3);
        FarPairs x = new FarPairs();
        x.sure(0, 3, 3, 0);
        x.cell(0, 8, 8, 1);
        Due.is("the last row is above the whole", x.who(0), Due.NO);
        x.cell(0, 8, 8, 0);
        Due.is("proper", x.who(0), Due.NONE);
        x.cell(0, 8, 0, 0);
        Due.is("the last row is below it", x.who(0), Due.NO);
    }

    static void promise13NoneIsSilent() {
        for (int q = 1; q <= 3; q++) for (int a = 2; a <= 3; a++) Due.is("even", even(q, a).who(0), Due.NONE);
        Edges.takenEach("silent and not local", BOTH_BROKEN, FarPairs::who, Due.NONE, 0);
    }

    /** Of all rows alike, one has one answer of one person instead: who() names the least that shows it. */
    private static long shown(int row, int answers) {
        FarPairs x = new FarPairs();
        x.sure(0, 3, 3, 0);
        x.cell(0, row, 0, 0);
        x.cell(0, row, answers, 1);
        return x.who(0);
    }

    static void promise13TheLastOfThree() {
        Due.is("the first one, question 2 with 2", shown(8, 3), 18 + 2);
        Due.is("the other one, question 2 with 2", shown(8, 1), 27 + 18 + 2);
        Due.is("the first one, question 2 with 1", shown(7, 6), 18 + 1);
        Due.is("the other one, question 1 with 2", shown(7, 2), 27 + 9 + 2);
        Due.is("unlike with question 0 itself", shown(6, 3), 18 + 1);
        Due.is("the other one, unlike with question 0", shown(2, 1), 27 + 18 + 1);
        Due.is("both: the first one is told", shown(4, 4), 9 + 1);
    }

    static void promise13TheLeastAnswerThatShows() {
        FarPairs x = new FarPairs();
        x.shape(0, 2, 3, 3);
        for (int row : ROWS_OF_TWO) Edges.row(x, 0, row, 1, 0, 0, 1, 0, 0, 1);
        Due.is("alike", x.who(0), Due.NONE);
        // Answers 1 and 2 of the first one to question 1 change places in part, with question 1 of the other.
        x.cell(0, 4, 3, 2);
        x.cell(0, 4, 6, 0);
        Due.is("answer 1", x.who(0), 9 + 3 + 1);
        x.cell(0, 4, 3, 1);
        x.cell(0, 4, 6, 1);
        x.cell(0, 4, 0, 0);
        x.cell(0, 4, 2, 1);
        Due.is("the other one's answer 0", x.who(0), 27 + 9 + 1);
        for (int row : new int[] {0, 1, 3}) {
            x.cell(0, row, 0, 0);
            x.cell(0, row, row == 3 ? 2 : 1, 1);
        }
        Due.is("question 0 comes ahead", x.who(0), 27 + 3 + 1);
    }

    static void promise13ByOneOfAMillion() {
        FarPairs x = new FarPairs();
        x.shape(0, 2, 2, 1000000);
        for (int row : ROWS_OF_TWO) Edges.row(x, 0, row, 1, 999999);
        Due.is("alike", x.who(0), Due.NONE);
        Edges.row(x, 0, 1, 2, 999998);
        Due.is("the other one's question 1 is unlike by 1", x.who(0), 27 + 9 + 1);
    }

    // ---- 14: number

    static void promise14Table() {
        Edges.tables(BOTH_SURE, FarPairs::number, 9);
    }

    static void promise14Missing() {
        Edges.refusedEach("missing", SOME, FarPairs::number, Due.NO, 5, 7);
    }

    static void promise14FirstAndLastOfEachShape() {
        int[][] shapes = {{1, 2, 4}, {1, 3, 9}, {2, 2, 16}, {2, 3, 81}, {3, 2, 64}, {3, 3, 729}};
        for (int[] s : shapes)
            for (int n : new int[] {0, 1, s[2] - 2, s[2] - 1}) {
                FarPairs x = new FarPairs();
                x.sure(0, s[0], s[1], n);
                Due.is("of " + s[0] + ", " + s[1], x.number(0), n);
            }
    }

    static void promise14NoneIfItIsNotProper() {
        FarPairs x = new FarPairs();
        x.shape(0, 2, 2, 7);
        Due.is("empty", x.number(0), Due.NONE);
        for (int row : ROWS_OF_TWO) x.cell(0, row, 3, 7);
        Due.is("sure", x.number(0), 12);
        x.cell(0, 4, 0, 1);
        Due.is("one row above the whole", x.number(0), Due.NONE);
        x.cell(0, 4, 0, 7);
        Due.is("two wholes in a row", x.number(0), Due.NONE);
        x.cell(0, 4, 0, 0);
        x.cell(0, 0, 3, 6);
        Due.is("one row below the whole", x.number(0), Due.NONE);
    }

    static void promise14NoneIfItIsNotSilent() {
        for (int row : ROWS_OF_TWO) {
            FarPairs x = new FarPairs();
            x.sure(0, 2, 2, 0);
            x.cell(0, row, 0, 0);
            x.cell(0, row, 4, 1);
            Due.is("row " + row, x.number(0), Due.NONE);
        }
    }

    /** All tables that answer each row of questions surely: 16 of the 256 are SURE. */
    static void promise14EachTableOfSureRows() {
        for (int i = 0; i < 256; i++) {
            int[] answers = {i >> 6 & 3, i >> 4 & 3, i >> 2 & 3, i & 3};
            FarPairs x = new FarPairs();
            x.shape(0, 2, 2, 3);
            for (int row = 0; row < 4; row++) x.cell(0, ROWS_OF_TWO[row], ROWS_OF_TWO[answers[row]], 3);
            boolean first = answers[0] / 2 == answers[1] / 2 && answers[2] / 2 == answers[3] / 2;
            boolean other = answers[0] % 2 == answers[2] % 2 && answers[1] % 2 == answers[3] % 2;
            int f = answers[0] / 2 + 2 * (answers[2] / 2), g = answers[0] % 2 + 2 * (answers[1] % 2);
            Due.is("number of " + i, x.number(0), first && other ? 4 * f + g : Due.NONE);
            Due.is("kind 2 of " + i, x.isOf(0, 2), first && other ? 1 : 0);
            Due.is("kind 4 of " + i, x.isOf(0, 4), first && other ? 1 : 0);
        }
    }

    static void promise14NoneIfItIsAMix() {
        Edges.takenEach("corner", BOTH_BROKEN, FarPairs::number, Due.NONE, 0);
        FarPairs x = new FarPairs();
        x.sure(0, 1, 2, 0);
        x.sure(1, 1, 2, 3);
        x.blend(0, 1, 2, 1001 * 1000 + 1);
        Due.is("999 of a thousand", x.number(2), Due.NONE);
    }

    // ---- 15: law

    static void promise15Table() {
        Edges.tables(BOTH_BROKEN, (x, t) -> x.law(t, 6), 8);
    }

    static void promise15LawNumber() {
        // Of corner 9, E is -1, 1, 1, -1.
        Edges.takenEach("k", BOTH_SURE, (x, k) -> x.law(0, k), 2, 0, 3, 5, 6);
        Edges.takenEach("k", BOTH_SURE, (x, k) -> x.law(0, k), -2, 1, 2, 4, 7);
        Edges.takenEach("k", BOTH_BROKEN, (x, k) -> x.law(0, k), 0, 0, 1);
        Edges.takenEach("k", BOTH_BROKEN, (x, k) -> x.law(0, k), -8, 7);
        Edges.refusedEach("k", BOTH_BROKEN, (x, k) -> x.law(0, k), Due.BAD, -1, 8, LEAST, GREATEST);
    }

    static void promise15NumberStandsAheadOfNo() {
        for (int t : new int[] {1, 3, 5, 7})
            Edges.refusedEach("table " + t, SOME, (x, k) -> x.law(t, k), Due.BAD, -1, 8);
    }

    static void promise15Missing() {
        Edges.refusedEach("missing", SOME, (x, t) -> x.law(t, 0), Due.NO, 5, 7);
    }

    static void promise15AnotherShape() {
        for (int[] s : NOT_TWO_BY_TWO) Edges.refused("shape", x -> x.sure(0, s[0], s[1], 0), x -> x.law(0, 0), Due.NO);
    }

    static void promise15NotProper() {
        Edges.refusedEach("not proper", SOME, (x, k) -> x.law(3, k), Due.NO, 0, 7);
        FarPairs x = silent(1000000, 250000);
        Due.is("proper", x.law(0, 0), 0);
        x.cell(0, 4, 4, 250001);
        Due.is("above by 1", x.law(0, 0), Due.NO);
        x.cell(0, 4, 4, 249999);
        Due.is("below by 1", x.law(0, 0), Due.NO);
    }

    static void promise15NotSilentIsTaken() {
        // Table 6 disagrees with questions 1, 1 alone.
        Edges.takenEach("k", SOME, (x, k) -> x.law(6, k), 4, 6);
        Edges.takenEach("k", SOME, (x, k) -> x.law(6, k), -4, 7);
    }

    static void promise15TheGreatestAndTheLeast() {
        FarPairs x = silent(1000000, 500000);
        Due.is("4 wholes", x.law(0, 6), 4000000);
        Due.is("turned in sign", x.law(0, 7), -4000000);
        for (int k = 0; k < 6; k++) Due.is("the others", x.law(0, k), 0);
    }

    // ---- 16: broken

    static void promise16Table() {
        Edges.tables(BOTH_BROKEN, FarPairs::broken, 6);
    }

    static void promise16Missing() {
        Edges.refusedEach("missing", SOME, FarPairs::broken, Due.NO, 5, 7);
    }

    static void promise16AnotherShape() {
        for (int[] s : NOT_TWO_BY_TWO) Edges.refused("shape", x -> x.sure(0, s[0], s[1], 0), x -> x.broken(0), Due.NO);
    }

    static void promise16NotProper() {
        Edges.refusedEach("not proper", SOME, FarPairs::broken, Due.NO, 3);
    }

    static void promise16NotSilent() {
        // Its corner law 6 is 4 wholes, and it is no table of this kind all the same.
        Edges.refusedEach("not silent", SOME, FarPairs::broken, Due.NO, 6);
    }

    static void promise16JustAtTwiceTheWhole() {
        Due.is("at it", silent(1000000, 375000).broken(0), Due.NONE);
        Due.is("above it", silent(1000000, 375001).broken(0), 6);
        Due.is("turned in sign, at it", silent(1000000, 125000).broken(0), Due.NONE);
        Due.is("turned in sign, above it", silent(1000000, 124999).broken(0), 7);
        Due.is("even", silent(4, 1).broken(0), Due.NONE);
    }

    static void promise16TheFirstAndTheLastLaw() {
        int[] corners = {23, 22, 18, 19, 20, 21, 16, 17};
        for (int law = 0; law < 8; law++) {
            FarPairs x = new FarPairs();
            x.corner(0, corners[law]);
            Due.is("corner " + corners[law], x.broken(0), x.law(0, law) == 8 ? law : -1);
        }
    }

    static void promise16NoSureOneBreaksAny() {
        for (int n = 0; n < 16; n++) {
            FarPairs x = new FarPairs();
            x.corner(0, n);
            Due.is("sure " + n, x.broken(0), Due.NONE);
        }
    }

    // ---- 17: near

    private static void nearIs(String what, FarPairs x, long... want) {
        for (int i = 0; i < 4; i++) Due.is(what + " " + i, x.near(0, i / 2, i % 2), want[i]);
    }

    static void promise17Table() {
        Edges.tables(BOTH_BROKEN, (x, t) -> x.near(t, 1, 1), 2);
    }

    static void promise17What() {
        Edges.takenEach("what", BOTH_BROKEN, (x, what) -> x.near(0, what, 0), 0, 0);
        Edges.takenEach("what", BOTH_BROKEN, (x, what) -> x.near(0, what, 0), 1, 1);
        Edges.refusedEach("what", BOTH_BROKEN, (x, what) -> x.near(0, what, 0), Due.BAD, -1, 2, LEAST, GREATEST);
    }

    static void promise17Part() {
        Edges.takenEach("part", BOTH_BROKEN, (x, part) -> x.near(0, 1, part), 1, 0);
        Edges.takenEach("part", BOTH_BROKEN, (x, part) -> x.near(0, 1, part), 2, 1);
        Edges.refusedEach("part", BOTH_BROKEN, (x, part) -> x.near(0, 1, part), Due.BAD, -1, 2, LEAST, GREATEST);
    }

    static void promise17WhatAndPartStandAheadOfNo() {
        for (int t : new int[] {1, 3, 5, 6, 7}) {
            Edges.refusedEach("what, table " + t, SOME, (x, what) -> x.near(t, what, 0), Due.BAD, -1, 2);
            Edges.refusedEach("part, table " + t, SOME, (x, part) -> x.near(t, 0, part), Due.BAD, -1, 2);
            Edges.refusedEach("table " + t, SOME, (x, what) -> x.near(t, what, 1), Due.NO, 0, 1);
        }
    }

    static void promise17Missing() {
        Edges.refusedEach("missing", EMPTY, (x, t) -> x.near(t, 0, 0), Due.NO, 0, 7);
    }

    static void promise17AnotherShape() {
        for (int[] s : NOT_TWO_BY_TWO) Edges.refused("shape", x -> x.sure(0, s[0], s[1], 0), x -> x.near(0, 0, 0), Due.NO);
    }

    static void promise17NotSilent() {
        Edges.refusedEach("not proper", SOME, (x, what) -> x.near(3, what, 0), Due.NO, 0, 1);
        Edges.refusedEach("not silent", SOME, (x, what) -> x.near(6, what, 0), Due.NO, 0, 1);
    }

    static void promise17JustAtTwiceTheWhole() {
        nearIs("at it", silent(1000000, 375000), 1, 1, 0, 1);
        nearIs("at it, of 8", silent(8, 3), 1, 1, 0, 1);
        // S is 2000016: (4000000 - S) / 2000000 and 16 / S.
        nearIs("above it", silent(1000000, 375001), 124999, 125000, 1, 125001);
        nearIs("below it", silent(1000000, 374999), 1, 1, 0, 1);
        nearIs("turned in sign, above it", silent(1000000, 124999), 124999, 125000, 1, 125001);
    }

    static void promise17TheGreatestS() {
        nearIs("4 wholes", silent(1000000, 500000), 0, 1, 1, 2);
        nearIs("4 wholes", silent(2, 1), 0, 1, 1, 2);
    }

    static void promise17TheLeastS() {
        nearIs("0", silent(1000000, 250000), 1, 1, 0, 1);
    }

    static void promise17SureOnes() {
        for (int n = 0; n < 16; n++) {
            FarPairs x = new FarPairs();
            x.corner(0, n);
            nearIs("sure " + n, x, 1, 1, 0, 1);
        }
    }
}
