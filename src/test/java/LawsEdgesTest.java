import java.util.function.Consumer;

/** The edges that promises 18 to 24 name: one test for each, named by the promise. */
public final class LawsEdgesTest {
    private static final Consumer<FarPairs> EMPTY = Edges::empty;
    private static final Consumer<FarPairs> SOME = Edges::some;
    private static final int LEAST = Integer.MIN_VALUE;
    private static final int GREATEST = Integer.MAX_VALUE;
    private static final int[] ROWS_OF_TWO = {0, 1, 3, 4};
    private static final int[][] SHAPES = {{1, 2, 4}, {1, 3, 9}, {2, 2, 16}, {2, 3, 81}, {3, 2, 64}, {3, 3, 729}};

    public static void main(String[] args) throws Exception {
        Edges.run(LawsEdgesTest.class, "promise", 18, 24);
        Due.end();
    }

    private static boolean inside(int row, int limit) {
        return row >= 0 && row < 9 && row / 3 < limit && row % 3 < limit;
    }

    /** A law of a shape with all weights alike. */
    private static void level(FarPairs x, int q, int a, int v) {
        x.begin(q, a);
        for (int i = 0; i < 81; i++) if (inside(i / 9, q) && inside(i % 9, a)) x.weigh(i / 9, i % 9, v);
    }

    private static FarPairs levelOne(int q, int a, int v) {
        FarPairs x = new FarPairs();
        level(x, q, a, v);
        return x;
    }

    // ---- 18: begin

    static void promise18Questions() {
        Edges.takenEach("q", SOME, (x, q) -> x.begin(q, 2), 0, 1, 3);
        Edges.refusedEach("q", SOME, (x, q) -> x.begin(q, 2), Due.BAD, 0, 4, -1, LEAST, GREATEST);
    }

    static void promise18Answers() {
        Edges.takenEach("a", SOME, (x, a) -> x.begin(1, a), 0, 2, 3);
        Edges.refusedEach("a", SOME, (x, a) -> x.begin(1, a), Due.BAD, 1, 4, 0, -1, -2, LEAST, GREATEST);
    }

    static void promise18BothWrong() {
        Edges.refused("both", SOME, x -> x.begin(0, 1), Due.BAD);
        Edges.refused("both", SOME, x -> x.begin(4, 4), Due.BAD);
    }

    static void promise18AllWeightsAreZeroWhereAFullLawStood() {
        FarPairs x = levelOne(3, 3, 1000);
        Due.is("full", x.count(4), 81);
        x.begin(3, 3);
        Due.is("the same shape", x.count(4), 0);
        level(x, 3, 3, -1000);
        x.begin(1, 2);
        Due.is("a smaller shape", x.count(4), 0);
        x.begin(3, 3);
        Due.is("the greater one again", x.count(4), 0);
        Due.is("its last weight", x.weigh(8, 8, 1), 0);
    }

    static void promise18SharesAreNoneWhereAllStood() {
        FarPairs x = new FarPairs();
        x.begin(3, 3);
        for (int n = 0; n < 30; n++) x.share(n, 1000000);
        Due.is("full", x.share(30, 1), Due.FULL);
        Due.is("the same shape", x.begin(3, 3), 0);
        Due.is("none", x.count(1), 0);
        Due.is("together", x.count(2), 0);
        Due.is("no mix", x.mixed(0), Due.NO);
        for (int n = 0; n < 30; n++) Due.is("room for all " + n, x.share(n, 1), 0);
    }

    static void promise18IsNoChange() {
        FarPairs x = new FarPairs();
        x.corner(0, 16);
        x.begin(1, 3);
        Due.is("kept", x.count(3), 1);
        Due.is("the table stays", x.about(0, 3), 8);
        Due.is("undo takes the corner back", x.undo(), 0);
        Due.is("the law stays", x.count(5), 9);
    }

    // ---- 19: weigh

    static void promise19Weight() {
        Edges.takenEach("v", EMPTY, (x, v) -> x.weigh(4, 4, v), 0, -1000, 1000, 0);
        Edges.refusedEach("v", SOME, (x, v) -> x.weigh(4, 4, v), Due.BAD, -1001, 1001, LEAST, GREATEST);
    }

    static void promise19WhatItWas() {
        FarPairs x = new FarPairs();
        Due.is("at first", x.weigh(0, 0, 1000), 0);
        Due.is("the greatest", x.weigh(0, 0, -1000), 1000);
        Due.is("the least", x.weigh(0, 0, 0), -1000);
        Due.is("none again", x.count(4), 0);
    }

    static void promise19RowsOfEachShape() {
        for (int[] s : SHAPES) {
            FarPairs x = new FarPairs();
            x.begin(s[0], s[1]);
            long taken = 0;
            for (int questions = -4; questions <= 13; questions++)
                for (int answers = -4; answers <= 13; answers++) {
                    boolean there = inside(questions, s[0]) && inside(answers, s[1]);
                    Due.is("rows " + questions + ", " + answers, x.weigh(questions, answers, 1), there ? 0 : Due.BAD);
                    if (there) taken++;
                }
            Due.is("no other weight", x.count(4), taken);
        }
    }

    static void promise19RowsAreRefused() {
        Edges.refusedEach("questions", SOME, (x, row) -> x.weigh(row, 0, 1), Due.BAD, -1, 2, 5, 6, 8, 9, LEAST, GREATEST);
        Edges.refusedEach("answers", SOME, (x, row) -> x.weigh(0, row, 1), Due.BAD, -1, 2, 5, 6, 8, 9, LEAST, GREATEST);
        Edges.refused("all", SOME, x -> x.weigh(9, 9, 1001), Due.BAD);
    }

    static void promise19LeavesSharesAndChangesAlone() {
        FarPairs x = new FarPairs();
        Edges.some(x);
        x.weigh(0, 1, 1000);
        Due.is("shares", x.count(2), 1000003);
        Due.is("kept", x.count(3), 6);
        Due.is("undo", x.undo(), 5);
        Due.is("the weight stays", x.weigh(0, 1, 0), 1000);
    }

    // ---- 20: take

    static void promise20LawNumber() {
        Edges.takenEach("k", SOME, FarPairs::take, 0, 0, 7);
        Edges.refusedEach("k", SOME, FarPairs::take, Due.BAD, -1, 8, LEAST, GREATEST);
    }

    static void promise20TheFirstAndTheLast() {
        FarPairs x = new FarPairs();
        x.take(0);
        Due.is("law 0, row 0, alike", x.weigh(0, 0, 1), -1);
        Due.is("law 0, row 0, unlike", x.weigh(0, 1, 1), 1);
        Due.is("law 0, row 4, alike", x.weigh(4, 4, 1), 1);
        x.take(7);
        Due.is("law 7, row 4, alike", x.weigh(4, 4, 0), 1);
        Due.is("law 7, row 4, unlike", x.weigh(4, 3, 0), -1);
        Due.is("law 7, row 0, alike", x.weigh(0, 0, 0), -1);
    }

    static void promise20EachLawIsWorthWhatTheCornerLawIs() {
        for (int k = 0; k < 8; k++) {
            FarPairs x = new FarPairs();
            x.take(k);
            for (int corner = 0; corner < 24; corner++) {
                x.corner(0, corner);
                Due.is("law " + k + " at " + corner, x.value(0, 0), x.law(0, k) / x.about(0, 2));
            }
            Due.is("weights", x.count(4), 16);
            for (int row : ROWS_OF_TWO)
                for (int answers : ROWS_OF_TWO) Due.is("1 or -1", Math.abs(x.weigh(row, answers, 0)), 1);
        }
    }

    static void promise20OfAnotherShapeStood() {
        FarPairs x = levelOne(3, 3, 9);
        Due.is("take", x.take(3), 0);
        Due.is("shape", x.count(5), 16);
        Due.is("weights", x.count(4), 16);
        Due.is("no third question", x.weigh(8, 0, 1), Due.BAD);
        x.begin(3, 3);
        Due.is("nothing of the old law", x.count(4), 0);
    }

    static void promise20SharesAreNone() {
        FarPairs x = new FarPairs();
        for (int n = 0; n < 16; n++) x.share(n, 1000000);
        Due.is("take", x.take(0), 0);
        Due.is("how many", x.count(1), 0);
        Due.is("together", x.count(2), 0);
        Due.is("no mix", x.mixed(0), Due.NO);
        Due.is("no change", x.count(3), 0);
    }

    // ---- 21: value

    static void promise21Table() {
        Edges.tables(Edges.both((x, t) -> x.corner(t, 0)), (x, t) -> x.value(t, 1), 1);
    }

    static void promise21Part() {
        Consumer<FarPairs> made = x -> {
            x.corner(0, 16);
            x.weigh(0, 0, 7);
        };
        Edges.takenEach("part", made, (x, part) -> x.value(0, part), 7, 0);
        Edges.takenEach("part", made, (x, part) -> x.value(0, part), 2, 1);
        Edges.refusedEach("part", made, (x, part) -> x.value(0, part), Due.BAD, -1, 2, LEAST, GREATEST);
    }

    static void promise21PartStandsAheadOfNo() {
        Edges.refusedEach("missing", SOME, (x, part) -> x.value(7, part), Due.BAD, -1, 2);
        Edges.refusedEach("shape", SOME, (x, part) -> x.value(1, part), Due.BAD, -1, 2);
        Edges.refusedEach("missing", SOME, (x, part) -> x.value(7, part), Due.NO, 0, 1);
        Edges.refusedEach("lost", SOME, (x, part) -> x.value(5, part), Due.NO, 0, 1);
    }

    static void promise21OfItsShapeOnly() {
        for (int[] law : SHAPES)
            for (int[] s : SHAPES) {
                FarPairs x = new FarPairs();
                x.begin(law[0], law[1]);
                x.shape(0, s[0], s[1], 1);
                Due.is("value", x.value(0, 0), law == s ? 0 : Due.NO);
                Due.is("breaks", x.breaks(0), law == s ? 0 : Due.NO);
            }
        Edges.refusedEach("another shape", SOME, (x, t) -> x.value(t, 0), Due.NO, 1, 2, 4);
    }

    static void promise21ZeroIsZeroByOne() {
        FarPairs x = new FarPairs();
        x.shape(0, 2, 2, 1000000);
        Due.is("empty", x.value(0, 0), 0);
        Due.is("empty, below", x.value(0, 1), 1);
        x.cell(0, 0, 0, 500);
        x.cell(0, 0, 1, 500);
        x.weigh(0, 0, 3);
        x.weigh(0, 1, -3);
        Due.is("made even", x.value(0, 0), 0);
        Due.is("made even, below", x.value(0, 1), 1);
    }

    static void promise21LowestTermsAndBelowAboveZero() {
        FarPairs x = new FarPairs();
        x.shape(0, 2, 2, 12);
        x.cell(0, 0, 0, 8);
        x.weigh(0, 0, -1);
        Due.is("above", x.value(0, 0), -2);
        Due.is("below", x.value(0, 1), 3);
        x.weigh(0, 0, -3);
        Due.is("a whole number", x.value(0, 0), -2);
        Due.is("below", x.value(0, 1), 1);
    }

    static void promise21TheGreatestAndTheLeast() {
        for (int v : new int[] {1000, -1000}) {
            FarPairs x = levelOne(3, 3, v);
            x.shape(0, 3, 3, 1000000);
            for (int i = 0; i < 81; i++) x.cell(0, i / 9, i % 9, 1000000);
            Due.is("all cells are wholes", x.value(0, 0), 81 * v);
            Due.is("below", x.value(0, 1), 1);
            x.cell(0, 0, 0, 999999);
            // 81 v less v / 1000000, and a thousand divides both.
            Due.is("less by a millionth", x.value(0, 0), 81000L * v - v / 1000);
            Due.is("below", x.value(0, 1), 1000);
        }
    }

    static void promise21NotProperIsTaken() {
        Edges.takenEach("table 3", SOME, (x, part) -> x.value(3, part), 400, 0);
        Edges.takenEach("table 3", SOME, (x, part) -> x.value(3, part), 9, 1);
    }

    // ---- 22: bound

    private static void boundIs(String what, FarPairs x, long... want) {
        for (int i = 0; i < 4; i++) Due.is(what + " " + i, x.bound(i), want[i]);
    }

    static void promise22What() {
        Edges.takenEach("what", EMPTY, FarPairs::bound, 0, 0, 1, 3);
        Edges.takenEach("what", EMPTY, FarPairs::bound, 16, 2);
        Edges.refusedEach("what", SOME, FarPairs::bound, Due.BAD, -1, 4, LEAST, GREATEST);
    }

    static void promise22AllSureTablesHaveIt() {
        for (int[] s : SHAPES)
            for (int v : new int[] {-1000, 0, 1000}) {
                int all = v * s[0] * s[0];
                boundIs("level " + v, levelOne(s[0], s[1], v), all, 0, s[2], all);
            }
    }

    static void promise22OneSureTableHasIt() {
        for (int[] s : SHAPES)
            for (int n : new int[] {0, s[2] - 1}) {
                FarPairs x = levelOne(s[0], s[1], -1000);
                int answers = n == 0 ? 0 : 4 * (s[1] - 1);
                for (int row = 0; row < 9; row++) x.weigh(row, answers, 1000);
                boundIs("number " + n, x, 1000 * s[0] * s[0], n, 1, -1000 * s[0] * s[0]);
            }
    }

    static void promise22OneSureTableHasTheLeast() {
        for (int[] s : SHAPES)
            for (int n : new int[] {0, s[2] - 1}) {
                FarPairs x = levelOne(s[0], s[1], 1000);
                int answers = n == 0 ? 0 : 4 * (s[1] - 1);
                for (int row = 0; row < 9; row++) x.weigh(row, answers, -1000);
                Due.is("least, at number " + n, x.bound(3), -1000 * s[0] * s[0]);
                Due.is("bound", x.bound(0), 1000 * s[0] * s[0]);
            }
    }

    static void promise22TheLeastOfSeveral() {
        FarPairs x = new FarPairs();
        x.begin(3, 3);
        x.weigh(8, 8, 1);
        // The first one answers 2 to question 2: F is 18 at least; so does the other one.
        boundIs("the last weight", x, 1, 18 * 27 + 18, 81, 0);
        x.weigh(8, 8, -1);
        boundIs("less than 0", x, 0, 0, 729 - 81, -1);
    }

    // ---- 23: breaks

    static void promise23Table() {
        Edges.tables(Edges.both((x, t) -> x.corner(t, 0)), FarPairs::breaks, 0);
    }

    static void promise23Missing() {
        Edges.refusedEach("missing", SOME, FarPairs::breaks, Due.NO, 5, 7);
    }

    static void promise23AnotherShape() {
        Edges.refusedEach("shape", SOME, FarPairs::breaks, Due.NO, 1, 2, 4);
    }

    /** A law of one weight, and a table that has a share of it. */
    private static FarPairs oneWeight(int weight, int share) {
        FarPairs x = new FarPairs();
        x.begin(1, 2);
        x.weigh(0, 0, weight);
        x.weigh(0, 1, weight);
        x.shape(0, 1, 2, 1000000);
        x.cell(0, 0, 0, 1000000);
        x.cell(0, 0, 1, share);
        return x;
    }

    static void promise23JustAtTheBound() {
        Due.is("at it", oneWeight(1, 0).breaks(0), 0);
        Due.is("above it by a millionth", oneWeight(1, 1).breaks(0), 1);
        Due.is("at it", oneWeight(1000, 0).breaks(0), 0);
        Due.is("above it", oneWeight(1000, 1).breaks(0), 1);
        Due.is("below it", oneWeight(-1, 1).breaks(0), 0);
    }

    static void promise23ABoundBelowZero() {
        FarPairs x = levelOne(1, 2, -1000);
        x.shape(0, 1, 2, 1000000);
        Due.is("an empty table has 0", x.breaks(0), 1);
        x.cell(0, 0, 0, 999999);
        Due.is("above it by a millionth", x.breaks(0), 1);
        x.cell(0, 0, 0, 1000000);
        Due.is("at it", x.breaks(0), 0);
        x.cell(0, 0, 1, 1);
        Due.is("below it", x.breaks(0), 0);
    }

    static void promise23NoSureTableBreaksAny() {
        FarPairs x = new FarPairs();
        for (int k = 0; k < 8; k++) {
            x.take(k);
            for (int n = 0; n < 16; n++) {
                x.corner(0, n);
                Due.is("law " + k + ", corner " + n, x.breaks(0), 0);
            }
        }
    }

    // ---- 24: best

    static void promise24What() {
        Edges.takenEach("what", EMPTY, FarPairs::best, 0, 0, 1, 2, 3);
        Edges.refusedEach("what", SOME, FarPairs::best, Due.BAD, -1, 4, LEAST, GREATEST);
    }

    static void promise24WhatStandsAheadOfNo() {
        Consumer<FarPairs> made = x -> level(x, 3, 3, 101);
        Edges.refusedEach("what", made, FarPairs::best, Due.BAD, -1, 4);
        Edges.refusedEach("shape", made, FarPairs::best, Due.NO, 0, 1, 3);
    }

    static void promise24OfTwoByTwoAloneButTold() {
        for (int[] s : SHAPES) {
            if (s[2] == 16) continue;
            Consumer<FarPairs> made = x -> level(x, s[0], s[1], 2);
            Edges.refusedEach("shape", made, FarPairs::best, Due.NO, 0, 1, 3);
            Edges.takenEach("told", made, FarPairs::best, 2 * s[0] * s[0], 2);
        }
    }

    static void promise24TwiceFromZeroToAHundred() {
        for (int row : ROWS_OF_TWO)
            for (int answers : ROWS_OF_TWO) {
                FarPairs x = new FarPairs();
                x.weigh(row, answers, 100);
                Due.is("100", x.best(3), 10000);
                x.weigh(row, answers, 101);
                Due.is("101", x.best(3), Due.NO);
                x.weigh(row, answers, 0);
                Due.is("0", x.best(3), 0);
                x.weigh(row, answers, -1);
                Due.is("-1", x.best(3), Due.NO);
            }
    }

    static void promise24TwiceRefusedChangesNothing() {
        Edges.refused("a weight of 1000, one of -7", SOME, x -> x.best(3), Due.NO);
        Edges.refused("above 100", x -> x.weigh(0, 0, 101), x -> x.best(3), Due.NO);
        Edges.refused("below 0", x -> x.weigh(0, 0, -1), x -> x.best(3), Due.NO);
    }

    static void promise24TwiceTheLeastAndTheGreatest() {
        Due.is("none", levelOne(2, 2, 0).best(3), 0);
        Due.is("all", levelOne(2, 2, 100).best(3), 16 * 10000);
    }

    /** Games with few ways to be best, so that a way to answer that is left out shows. Bit x y a b of each is a point. */
    static void promise24TwiceAnswersHangOnBothQuestions() {
        int[][] games = {{257, 4}, {1025, 4}, {260, 4}, {1028, 4}, {278, 6}, {1046, 6}, {329, 6}, {1097, 6}, {17922, 6},
            {17928, 6}, {5633, 6}, {5636, 6}};
        for (int[] game : games) {
            FarPairs x = new FarPairs();
            Oracle oracle = new Oracle();
            for (int i = 0; i < 16; i++) {
                int row = 3 * (i / 8) + i / 4 % 2, answers = 3 * (i / 2 % 2) + i % 2;
                x.weigh(row, answers, game[0] >> i & 1);
                oracle.weigh(row, answers, game[0] >> i & 1);
            }
            Due.is("game " + game[0], x.best(3), game[1]);
            Due.is("game " + game[0] + ", tried out", oracle.best(3), game[1]);
        }
    }

    static void promise24OtherWeightsAreTakenBySilentAndTold() {
        for (int v : new int[] {-1000, 1000}) {
            FarPairs x = levelOne(2, 2, v);
            Due.is("twice silent", x.best(0), 8 * v);
            Due.is("the least corner", x.best(1), 0);
            Due.is("told", x.best(2), 4 * v);
        }
    }

    static void promise24EachCornerFromTheFirstToTheLast() {
        for (int k = 0; k < 24; k++) {
            FarPairs x = levelOne(2, 2, -1000);
            x.corner(0, k);
            for (int i = 0; i < 81; i++) if (x.chance(0, i / 9, i % 9) > 0) x.weigh(i / 9, i % 9, 1000);
            Due.is("twice its value", x.best(0), 8000);
            Due.is("corner", x.best(1), k);
        }
    }

    static void promise24ASureOneAndAnotherHaveItAlike() {
        FarPairs x = new FarPairs();
        for (int row : new int[] {0, 1, 3}) {
            x.weigh(row, 0, 1);
            x.weigh(row, 4, 1);
        }
        // Corner 16 has 3 as well as the SURE ones: the least is told.
        Due.is("twice", x.best(0), 6);
        Due.is("the least", x.best(1), 0);
    }

    static void promise24ToldWithOneQuestionIsByLots() {
        for (int a = 2; a <= 3; a++) {
            FarPairs x = levelOne(1, a, -1000);
            Due.is("level", x.best(2), -1000);
            x.weigh(0, 4 * (a - 1), 1000);
            Due.is("the last weight", x.best(2), 1000);
            Due.is("by lots", x.bound(0), 1000);
        }
    }

    static void promise24ToldWhichQuestionIsApart() {
        for (int q = 2; q <= 3; q++)
            for (int apart = 0; apart < q; apart++) {
                FarPairs x = levelOne(q, 3, -1000);
                for (int row = 0; row < 9; row++)
                    for (int a = 0; a < 3; a++) x.weigh(row, 3 * a + (row / 3 == apart ? 1 : 2), 1000);
                Due.is("of " + q + ", question " + apart, x.best(2), 1000 * q * q);
                Due.is("without a bit", x.bound(0), 1000 * q * (q - 2));
            }
    }

    static void promise24ToldOneBitOfThreeQuestions() {
        FarPairs x = new FarPairs();
        x.begin(3, 3);
        for (int p = 0; p < 3; p++) for (int y = 0; y < 3; y++) for (int a = 0; a < 3; a++) x.weigh(3 * p + y, 3 * a + p, 1);
        Due.is("two of three are told apart", x.best(2), 6);
        x.begin(2, 3);
        for (int p = 0; p < 2; p++) for (int y = 0; y < 2; y++) for (int a = 0; a < 3; a++) x.weigh(3 * p + y, 3 * a + p, 1);
        Due.is("both of two are", x.best(2), 4);
        Due.is("without a bit", x.bound(0), 2);
    }
}
