import java.util.function.Consumer;

/** The edges that promises 1 to 11 name: one test for each, named by the promise. */
public final class TablesEdgesTest {
    private static final Consumer<FarPairs> EMPTY = Edges::empty;
    private static final Consumer<FarPairs> SOME = Edges::some;
    // Of table 0 every CELL has a number of its own.
    private static final Consumer<FarPairs> NUMBERED_OF_TWO = x -> numbered(x, 2, 2);
    private static final int LEAST = Integer.MIN_VALUE;
    private static final int GREATEST = Integer.MAX_VALUE;
    private static final int[][] SHAPES = {{1, 2}, {1, 3}, {2, 2}, {2, 3}, {3, 2}, {3, 3}};

    public static void main(String[] args) throws Exception {
        Edges.run(TablesEdgesTest.class, "promise", 1, 11);
        Due.end();
    }

    private static void numbered(FarPairs x, int q, int a) {
        x.shape(0, q, a, 100);
        for (int i = 0; i < 81; i++) if (inside(i / 9, q) && inside(i % 9, a)) x.cell(0, i / 9, i % 9, i + 1);
    }

    /** Whether a row, told as 3 * one + other, is one of those below the limit. */
    private static boolean inside(int row, int limit) {
        return row >= 0 && row < 9 && row / 3 < limit && row % 3 < limit;
    }

    // ---- 1: a new object

    static void promise1AllTablesAreMissing() {
        FarPairs x = new FarPairs();
        for (int t = 0; t < 8; t++) {
            Due.is("about " + t, x.about(t, 0), Due.NO);
            Due.is("lose " + t, x.lose(t), Due.NO);
        }
        Due.is("tables", x.count(0), 0);
    }

    static void promise1NoSharesAreThere() {
        FarPairs x = new FarPairs();
        Due.is("how many", x.count(1), 0);
        Due.is("together", x.count(2), 0);
        Due.is("mixed", x.mixed(0), Due.NO);
        for (int n = 0; n < 16; n++) Due.is("share " + n, x.share(n, 0), 0);
        x.corner(0, 0);
        Due.is("makes", x.makes(0), Due.NO);
    }

    static void promise1NothingIsKeptAndTheLawIsOfTwoByTwo() {
        FarPairs x = new FarPairs();
        Due.is("kept", x.count(3), 0);
        Due.is("undo", x.undo(), Due.NO);
        Due.is("weights", x.count(4), 0);
        Due.is("sure tables of its shape", x.count(5), 16);
    }

    static void promise1AnotherObjectHasNothingOfTheFirst() {
        FarPairs first = new FarPairs();
        Edges.some(first);
        FarPairs x = new FarPairs();
        for (int what = 0; what < 5; what++) Due.is("count " + what, x.count(what), 0);
        x.begin(3, 3);
        x.corner(0, 1);
        Due.is("the first keeps its law", first.count(5), 16);
        Due.is("the first keeps its table", first.about(0, 2), 2);
    }

    // ---- 2: shape

    static void promise2Table() {
        Edges.tables(SOME, (x, t) -> x.shape(t, 1, 2, 1), 4);
    }

    static void promise2Questions() {
        Edges.takenEach("q", EMPTY, (x, q) -> x.shape(0, q, 2, 5), 4, 1);
        Edges.takenEach("q", EMPTY, (x, q) -> x.shape(0, q, 2, 5), 36, 3);
        Edges.refusedEach("q", SOME, (x, q) -> x.shape(0, q, 2, 5), Due.BAD, 0, 4, -1, LEAST, GREATEST);
    }

    static void promise2Answers() {
        Edges.takenEach("a", EMPTY, (x, a) -> x.shape(0, 1, a, 5), 4, 2);
        Edges.takenEach("a", EMPTY, (x, a) -> x.shape(0, 1, a, 5), 9, 3);
        Edges.refusedEach("a", SOME, (x, a) -> x.shape(0, 1, a, 5), Due.BAD, 1, 4, 0, -1, -2, LEAST, GREATEST);
    }

    static void promise2Whole() {
        for (int whole : new int[] {1, 1000000}) {
            FarPairs x = new FarPairs();
            Due.is("whole " + whole, x.shape(0, 1, 2, whole), 4);
            Due.is("whole " + whole, x.about(0, 2), whole);
            Due.is("a cell of the whole", x.cell(0, 0, 0, whole), 0);
        }
        Edges.refusedEach("whole", SOME, (x, whole) -> x.shape(0, 1, 2, whole), Due.BAD, 0, 1000001, -1, LEAST, GREATEST);
    }

    static void promise2SeveralWrongAtOnce() {
        Edges.refused("all", SOME, x -> x.shape(8, 0, 1, 0), Due.BAD);
        Edges.refused("all but the table", SOME, x -> x.shape(7, 4, 4, 1000001), Due.BAD);
    }

    static void promise2HowManyCells() {
        for (int[] s : SHAPES) {
            FarPairs x = new FarPairs();
            Due.is("cells of " + s[0] + ", " + s[1], x.shape(7, s[0], s[1], 2), s[0] * s[0] * s[1] * s[1]);
            long seen = 0;
            for (int i = 0; i < 81; i++) if (x.chance(7, i / 9, i % 9) == 0) seen++;
            Due.is("cells that are there, all 0", seen, s[0] * s[0] * s[1] * s[1]);
        }
    }

    static void promise2AllCellsAreZeroWhereAFullTableStood() {
        FarPairs x = new FarPairs();
        numbered(x, 3, 3);
        Due.is("full", x.about(0, 3), 81);
        x.shape(0, 3, 3, 100);
        Due.is("the same shape anew", x.about(0, 3), 0);
        numbered(x, 3, 3);
        x.shape(0, 1, 2, 100);
        x.shape(0, 3, 3, 100);
        Due.is("by way of a smaller one", x.about(0, 3), 0);
        for (int i = 0; i < 81; i++) Due.is("cell " + i, x.chance(0, i / 9, i % 9), 0);
    }

    static void promise2NoOtherTableChanges() {
        FarPairs x = new FarPairs();
        x.corner(6, 20);
        x.shape(7, 3, 3, 9);
        Due.is("beside it", x.about(6, 3), 8);
        Due.is("still missing", x.about(5, 0), Due.NO);
    }

    // ---- 3: lose

    static void promise3Table() {
        Edges.tables(Edges.both((x, t) -> x.corner(t, 3)), FarPairs::lose, 0);
    }

    static void promise3NeverThere() {
        Edges.refusedEach("missing", EMPTY, FarPairs::lose, Due.NO, 0, 3, 7);
    }

    static void promise3LostAlready() {
        Edges.refusedEach("missing", SOME, FarPairs::lose, Due.NO, 5, 7);
    }

    static void promise3ItIsMissing() {
        FarPairs x = new FarPairs();
        Edges.some(x);
        Due.is("lose", x.lose(0), 0);
        Due.is("about", x.about(0, 2), Due.NO);
        Due.is("tables", x.count(0), 5);
        Due.is("the others stay", x.about(1, 2), 4);
        x.shape(0, 2, 2, 2);
        Due.is("nothing of it comes back", x.about(0, 3), 0);
    }

    // ---- 4: cell

    static void promise4Table() {
        Edges.tables(Edges.both((x, t) -> x.shape(t, 1, 2, 3)), (x, t) -> x.cell(t, 0, 0, 3), 0);
    }

    static void promise4MissingStandsAheadOfRowsAndV() {
        Edges.refused("all right", SOME, x -> x.cell(7, 0, 0, 0), Due.NO);
        Edges.refused("row of questions", SOME, x -> x.cell(7, 9, 0, 0), Due.NO);
        Edges.refused("row of answers", SOME, x -> x.cell(5, 0, -1, 0), Due.NO);
        Edges.refused("v", SOME, x -> x.cell(5, 0, 0, -1), Due.NO);
        Edges.refused("all", SOME, x -> x.cell(7, LEAST, GREATEST, LEAST), Due.NO);
    }

    static void promise4TableStandsAheadOfAll() {
        Edges.refused("all", SOME, x -> x.cell(8, 9, 9, -1), Due.BAD);
    }

    static void promise4RowsOfQuestions() {
        for (int q = 1; q <= 3; q++) {
            int[] shape = {q};
            Consumer<FarPairs> made = x -> x.shape(0, shape[0], 3, 7);
            for (int row = -4; row <= 13; row++) {
                if (inside(row, q)) Edges.takenEach("of " + q + " row", made, (x, at) -> x.cell(0, at, 8, 7), 0, row);
                else Edges.refusedEach("of " + q + " row", made, (x, at) -> x.cell(0, at, 8, 7), Due.BAD, row);
            }
            Edges.refusedEach("row", made, (x, at) -> x.cell(0, at, 0, 1), Due.BAD, LEAST, GREATEST);
        }
    }

    static void promise4RowsOfAnswers() {
        for (int a = 2; a <= 3; a++) {
            int[] shape = {a};
            Consumer<FarPairs> made = x -> x.shape(0, 3, shape[0], 7);
            for (int row = -4; row <= 13; row++) {
                if (inside(row, a)) Edges.takenEach("of " + a + " row", made, (x, at) -> x.cell(0, 8, at, 7), 0, row);
                else Edges.refusedEach("of " + a + " row", made, (x, at) -> x.cell(0, 8, at, 7), Due.BAD, row);
            }
            Edges.refusedEach("row", made, (x, at) -> x.cell(0, 0, at, 1), Due.BAD, LEAST, GREATEST);
        }
    }

    static void promise4FromZeroToTheWhole() {
        for (int whole : new int[] {1, 5, 1000000}) {
            Consumer<FarPairs> made = x -> x.shape(0, 2, 2, whole);
            Edges.takenEach("v", made, (x, v) -> x.cell(0, 4, 4, v), 0, 0, 1, whole);
            Edges.refusedEach("v", made, (x, v) -> x.cell(0, 4, 4, v), Due.BAD, -1, whole + 1, LEAST, GREATEST);
        }
    }

    static void promise4WhatItWas() {
        FarPairs x = new FarPairs();
        x.shape(3, 3, 3, 1000000);
        Due.is("at first", x.cell(3, 8, 8, 1000000), 0);
        Due.is("the whole", x.cell(3, 8, 8, 0), 1000000);
        Due.is("0", x.cell(3, 8, 8, 0), 0);
        Due.is("alone", x.about(3, 3), 0);
    }

    static void promise4CellsTogetherMayBeAboveTheWhole() {
        FarPairs x = new FarPairs();
        x.shape(0, 1, 3, 1000000);
        for (int i = 0; i < 9; i++) Due.is("cell " + i, x.cell(0, 0, i, 1000000), 0);
        Due.is("not proper", x.isOf(0, 1), 0);
    }

    static void promise4TheWholeOfANewShapeCounts() {
        FarPairs x = new FarPairs();
        x.shape(0, 2, 2, 9);
        x.corner(0, 16);
        Due.is("the corner's whole", x.cell(0, 0, 0, 2), 1);
        Due.is("above it", x.cell(0, 0, 0, 3), Due.BAD);
        x.sure(0, 2, 2, 0);
        Due.is("above 1", x.cell(0, 0, 0, 2), Due.BAD);
    }

    // ---- 5: sure

    static void promise5Table() {
        Edges.tables(SOME, (x, t) -> x.sure(t, 1, 2, 3), 0);
    }

    static void promise5Questions() {
        Edges.takenEach("q", SOME, (x, q) -> x.sure(0, q, 2, 3), 0, 1, 3);
        Edges.refusedEach("q", SOME, (x, q) -> x.sure(0, q, 2, 0), Due.BAD, 0, 4, -1, LEAST, GREATEST);
    }

    static void promise5Answers() {
        Edges.takenEach("a", SOME, (x, a) -> x.sure(0, 1, a, 3), 0, 2, 3);
        Edges.refusedEach("a", SOME, (x, a) -> x.sure(0, 1, a, 0), Due.BAD, 1, 4, 0, -1, -2, LEAST, GREATEST);
    }

    static void promise5Numbers() {
        int[] sures = {4, 9, 16, 81, 64, 729};
        for (int i = 0; i < SHAPES.length; i++) {
            int q = SHAPES[i][0], a = SHAPES[i][1], last = sures[i] - 1;
            Edges.takenEach("n", SOME, (x, n) -> x.sure(0, q, a, n), 0, 0, last);
            Edges.refusedEach("n", SOME, (x, n) -> x.sure(0, q, a, n), Due.BAD, -1, last + 1, LEAST, GREATEST);
        }
    }

    static void promise5FirstAndLastNumberOfEachShape() {
        for (int[] s : SHAPES) {
            FarPairs x = new FarPairs();
            int q = s[0], last = s[1] - 1, sures = 1;
            for (int i = 0; i < 2 * q; i++) sures *= s[1];
            x.sure(0, q, s[1], 0);
            x.sure(1, q, s[1], sures - 1);
            for (int i = 0; i < 9; i++)
                if (inside(i, q)) {
                    Due.is("number 0", x.chance(0, i, 0), 1);
                    Due.is("the last number", x.chance(1, i, 4 * last), 1);
                }
            Due.is("number 0, others are 0", x.about(0, 3), q * q);
            Due.is("the last number, others are 0", x.about(1, 3), q * q);
            Due.is("whole", x.about(1, 2), 1);
        }
    }

    static void promise5TheOtherOnesLastNumberAndTheFirstOnesFirst() {
        FarPairs x = new FarPairs();
        x.sure(0, 2, 3, 8);
        Due.is("the first one answers 0, the other one 2", x.chance(0, 4, 2), 1);
        x.sure(0, 2, 3, 9);
        // F is 1: the first one answers 1 to question 0, and 0 to question 1.
        Due.is("question 0", x.chance(0, 0, 3), 1);
        Due.is("question 1", x.chance(0, 3, 0), 1);
    }

    static void promise5SeveralWrongAtOnce() {
        Edges.refused("all", SOME, x -> x.sure(-1, 0, 1, -1), Due.BAD);
    }

    // ---- 6: corner

    static void promise6Table() {
        Edges.tables(SOME, (x, t) -> x.corner(t, 23), 0);
    }

    static void promise6Numbers() {
        Edges.takenEach("k", SOME, (x, k) -> x.corner(0, k), 0, 0, 15, 16, 23);
        Edges.refusedEach("k", SOME, (x, k) -> x.corner(0, k), Due.BAD, -1, 24, LEAST, GREATEST);
    }

    static void promise6TheLastSureOneAndTheFirstThatIsNone() {
        FarPairs x = new FarPairs();
        x.corner(0, 15);
        Due.is("15", x.number(0), 15);
        Due.is("its whole", x.about(0, 2), 1);
        x.corner(0, 16);
        Due.is("16", x.number(0), Due.NONE);
        Due.is("its whole", x.about(0, 2), 2);
        Due.is("its cells", x.about(0, 3), 8);
        // l, m, n are 0: the parity is 1 with questions 1, 1 alone.
        for (int row : new int[] {0, 1, 3}) Due.is("row " + row, x.chance(0, row, 0), 1);
        Due.is("row 4", x.chance(0, 4, 0), 0);
        Due.is("row 4", x.chance(0, 4, 1), 1);
    }

    static void promise6TheLast() {
        FarPairs x = new FarPairs();
        x.corner(0, 23);
        // x y + x + y + 1 is odd with questions 0, 0 alone.
        Due.is("row 0", x.chance(0, 0, 1), 1);
        for (int row : new int[] {1, 3, 4}) Due.is("row " + row, x.chance(0, row, 4), 1);
        Due.is("cells", x.about(0, 3), 8);
    }

    static void promise6AGreaterTableStoodThere() {
        FarPairs x = new FarPairs();
        numbered(x, 3, 3);
        x.corner(0, 16);
        Due.is("cells", x.about(0, 3), 8);
        Due.is("questions", x.about(0, 0), 2);
        Due.is("no third question", x.chance(0, 8, 0), Due.BAD);
    }

    // ---- 7: about

    static void promise7Table() {
        Edges.tables(Edges.both((x, t) -> x.shape(t, 3, 2, 9)), (x, t) -> x.about(t, 0), 3);
    }

    static void promise7What() {
        Edges.takenEach("what", NUMBERED_OF_TWO, (x, what) -> x.about(0, what), 2, 0);
        Edges.takenEach("what", NUMBERED_OF_TWO, (x, what) -> x.about(0, what), 16, 3);
        Edges.refusedEach("what", SOME, (x, what) -> x.about(0, what), Due.BAD, -1, 4, LEAST, GREATEST);
    }

    static void promise7WhatStandsAheadOfMissing() {
        Edges.refusedEach("what", SOME, (x, what) -> x.about(7, what), Due.BAD, -1, 4);
        Edges.refusedEach("missing", SOME, (x, what) -> x.about(7, what), Due.NO, 0, 1, 2, 3);
        Edges.refusedEach("lost", SOME, (x, what) -> x.about(5, what), Due.NO, 0, 1, 2, 3);
    }

    static void promise7NoCellAndAllCells() {
        FarPairs x = new FarPairs();
        x.shape(0, 3, 3, 1);
        Due.is("none", x.about(0, 3), 0);
        x.cell(0, 8, 8, 1);
        Due.is("the last alone", x.about(0, 3), 1);
        for (int i = 0; i < 81; i++) x.cell(0, i / 9, i % 9, 1);
        Due.is("all", x.about(0, 3), 81);
        x.cell(0, 0, 0, 0);
        Due.is("all but the first", x.about(0, 3), 80);
    }

    // ---- 8: chance

    static void promise8Table() {
        Edges.tables(Edges.both((x, t) -> x.corner(t, 0)), (x, t) -> x.chance(t, 4, 0), 1);
    }

    static void promise8MissingStandsAheadOfRows() {
        Edges.refused("all right", SOME, x -> x.chance(7, 0, 0), Due.NO);
        Edges.refused("row of questions", SOME, x -> x.chance(7, 9, 0), Due.NO);
        Edges.refused("row of answers", SOME, x -> x.chance(5, 0, -1), Due.NO);
        Edges.refused("table stands ahead", SOME, x -> x.chance(8, 9, 9), Due.BAD);
    }

    static void promise8RowsOfEachShape() {
        for (int[] s : SHAPES) {
            FarPairs x = new FarPairs();
            numbered(x, s[0], s[1]);
            for (int questions = -4; questions <= 13; questions++)
                for (int answers = -4; answers <= 13; answers++) {
                    boolean there = inside(questions, s[0]) && inside(answers, s[1]);
                    Due.is("rows " + questions + ", " + answers, x.chance(0, questions, answers),
                        there ? 9 * questions + answers + 1 : Due.BAD);
                }
        }
    }

    static void promise8RowsFarOut() {
        Edges.refusedEach("questions", SOME, (x, row) -> x.chance(2, row, 0), Due.BAD, -1, 9, LEAST, GREATEST);
        Edges.refusedEach("answers", SOME, (x, row) -> x.chance(2, 0, row), Due.BAD, -1, 9, LEAST, GREATEST);
    }

    static void promise8NoCellAndAWholeOne() {
        FarPairs x = new FarPairs();
        x.shape(0, 1, 2, 1000000);
        Due.is("0 at first", x.chance(0, 0, 4), 0);
        x.cell(0, 0, 4, 1000000);
        Due.is("the whole", x.chance(0, 0, 4), 1000000);
    }

    // ---- 9: swap

    static void promise9Table() {
        Edges.tables(Edges.both((x, t) -> x.corner(t, 0)), (x, t) -> x.swap(t, 0, 0, 1), 0);
    }

    static void promise9MissingStandsAheadOfTheOthers() {
        Edges.refused("all right", SOME, x -> x.swap(7, 0, 0, 0), Due.NO);
        Edges.refused("question", SOME, x -> x.swap(7, 6, 0, 0), Due.NO);
        Edges.refused("answers", SOME, x -> x.swap(5, 0, -1, 3), Due.NO);
        Edges.refused("table stands ahead", SOME, x -> x.swap(-1, 6, 9, 9), Due.BAD);
    }

    static void promise9PersonAndQuestionOfEachShape() {
        for (int q = 1; q <= 3; q++) {
            int[] shape = {q};
            Consumer<FarPairs> made = x -> numbered(x, shape[0], 2);
            for (int p = -4; p <= 10; p++) {
                boolean there = p >= 0 && p < 6 && p % 3 < q;
                if (there) Edges.takenEach("of " + q, made, (x, at) -> x.swap(0, at, 0, 1), 0, p);
                else Edges.refusedEach("of " + q, made, (x, at) -> x.swap(0, at, 0, 1), Due.BAD, p);
            }
        }
        Edges.refusedEach("far out", SOME, (x, at) -> x.swap(2, at, 0, 0), Due.BAD, LEAST, GREATEST);
    }

    static void promise9Answers() {
        for (int a = 2; a <= 3; a++) {
            int[] shape = {a};
            Consumer<FarPairs> made = x -> numbered(x, 1, shape[0]);
            Edges.takenEach("a", made, (x, at) -> x.swap(0, 0, at, 0), 0, 0, a - 1);
            Edges.takenEach("b", made, (x, at) -> x.swap(0, 3, 0, at), 0, 0, a - 1);
            Edges.refusedEach("a", made, (x, at) -> x.swap(0, 0, at, 0), Due.BAD, -1, a, LEAST, GREATEST);
            Edges.refusedEach("b", made, (x, at) -> x.swap(0, 3, 0, at), Due.BAD, -1, a, LEAST, GREATEST);
            Edges.refusedEach("alike and wrong", made, (x, at) -> x.swap(0, 0, at, at), Due.BAD, -1, a);
        }
    }

    static void promise9AlikeIsTakenAndIsAChange() {
        for (int p : new int[] {0, 1, 3, 4}) {
            FarPairs x = new FarPairs();
            x.shape(0, 2, 2, 9);
            x.cell(0, 4, 1, 5);
            Due.is("alike", x.swap(0, p, 1, 1), 0);
            Due.is("a change", x.count(3), 3);
            Due.is("cells stay", x.chance(0, 4, 1), 5);
            Due.is("one cell alone", x.about(0, 3), 1);
            Due.is("taken back", x.undo(), 2);
            Due.is("cells stay", x.chance(0, 4, 1), 5);
        }
    }

    static void promise9TheLastQuestionAndAnswersAlone() {
        FarPairs x = new FarPairs();
        numbered(x, 3, 3);
        Due.is("the other one's question 2", x.swap(0, 5, 0, 2), 0);
        for (int i = 0; i < 81; i++) {
            int b = i % 3, from = i / 9 % 3 == 2 ? i - b + 2 - b : i;
            Due.is("cell " + i, x.chance(0, i / 9, i % 9), from + 1);
        }
        Due.is("the first one's question 2", x.swap(0, 2, 2, 1), 0);
        Due.is("answer 1", x.chance(0, 6, 3), 54 + 6 + 1);
        Due.is("answer 2", x.chance(0, 6, 6), 54 + 3 + 1);
        Due.is("answer 0 stays", x.chance(0, 6, 0), 54 + 1);
        Due.is("question 1 stays", x.chance(0, 3, 3), 27 + 3 + 1);
    }

    // ---- 10: turn

    static void promise10Table() {
        Edges.tables(Edges.both((x, t) -> x.corner(t, 1)), (x, t) -> x.turn(t, 2), 0);
    }

    static void promise10How() {
        Edges.takenEach("how", NUMBERED_OF_TWO, (x, how) -> x.turn(0, how), 0, 0, 1, 2);
        Edges.refusedEach("how", NUMBERED_OF_TWO, (x, how) -> x.turn(0, how), Due.BAD, -1, 3, LEAST, GREATEST);
    }

    static void promise10MissingStandsAheadOfHow() {
        Edges.refusedEach("missing", SOME, (x, how) -> x.turn(7, how), Due.NO, -1, 0, 2, 3);
        Edges.refusedEach("lost", SOME, (x, how) -> x.turn(5, how), Due.NO, -1, 0, 2, 3);
        Edges.refusedEach("table stands ahead", SOME, (x, how) -> x.turn(8, how), Due.BAD, 0, 3);
    }

    static void promise10OneQuestion() {
        for (int how = 1; how <= 2; how++) {
            FarPairs x = new FarPairs();
            numbered(x, 1, 3);
            Due.is("how " + how, x.turn(0, how), 0);
            for (int i = 0; i < 9; i++) Due.is("stays", x.chance(0, 0, i), i + 1);
            Due.is("a change", x.count(3), 6);
        }
        FarPairs x = new FarPairs();
        numbered(x, 1, 3);
        x.turn(0, 0);
        Due.is("the people's answers", x.chance(0, 0, 2), 7);
        Due.is("the people's answers", x.chance(0, 0, 6), 3);
    }

    static void promise10OfTwoAndOfThreeQuestions() {
        for (int q = 2; q <= 3; q++)
            for (int how = 1; how <= 2; how++) {
                FarPairs x = new FarPairs();
                numbered(x, q, 2);
                x.turn(0, how);
                int last = q - 1;
                for (int i = 0; i < 81; i++) {
                    if (!inside(i / 9, q) || !inside(i % 9, 2)) continue;
                    int own = how == 1 ? i / 27 : i / 9 % 3, step = how == 1 ? 27 : 9;
                    Due.is("cell " + i, x.chance(0, i / 9, i % 9), i + step * (last - 2 * own) + 1);
                }
            }
    }

    static void promise10PeopleOfEachShape() {
        for (int[] s : SHAPES) {
            FarPairs x = new FarPairs();
            numbered(x, s[0], s[1]);
            x.turn(0, 0);
            for (int i = 0; i < 81; i++) {
                if (!inside(i / 9, s[0]) || !inside(i % 9, s[1])) continue;
                int from = 27 * (i / 9 % 3) + 9 * (i / 27) + 3 * (i % 3) + i / 3 % 3;
                Due.is("cell " + i, x.chance(0, i / 9, i % 9), from + 1);
            }
        }
    }

    static void promise10TwiceIsAsItWas() {
        for (int[] s : SHAPES)
            for (int how = 0; how < 3; how++) {
                FarPairs x = new FarPairs();
                numbered(x, s[0], s[1]);
                x.turn(0, how);
                x.turn(0, how);
                long alike = 0;
                for (int i = 0; i < 81; i++) if (x.chance(0, i / 9, i % 9) == i + 1) alike++;
                Due.is("twice " + how, alike, s[0] * s[0] * s[1] * s[1]);
            }
    }

    // ---- 11: same

    static void promise11Tables() {
        Consumer<FarPairs> made = Edges.both((x, t) -> x.corner(t, 5));
        Edges.tables(made, (x, t) -> x.same(t, 0), 1);
        Edges.tables(made, (x, s) -> x.same(0, s), 1);
        Edges.refused("both", made, x -> x.same(-1, 8), Due.BAD);
    }

    static void promise11BadStandsAheadOfMissing() {
        Edges.refusedEach("s", SOME, (x, s) -> x.same(7, s), Due.BAD, Edges.NO_TABLES);
        Edges.refusedEach("t", SOME, (x, t) -> x.same(t, 7), Due.BAD, Edges.NO_TABLES);
    }

    static void promise11OneIsMissing() {
        Edges.refused("t", SOME, x -> x.same(7, 0), Due.NO);
        Edges.refused("s", SOME, x -> x.same(0, 7), Due.NO);
        Edges.refused("both", SOME, x -> x.same(5, 7), Due.NO);
        Edges.refused("both are one", SOME, x -> x.same(7, 7), Due.NO);
    }

    static void promise11OfOneShapeOnly() {
        FarPairs x = new FarPairs();
        for (int i = 0; i < SHAPES.length; i++) x.shape(i, SHAPES[i][0], SHAPES[i][1], 1);
        for (int i = 0; i < SHAPES.length; i++)
            for (int j = 0; j < SHAPES.length; j++) Due.is("empty " + i + ", " + j, x.same(i, j), i == j ? 1 : 0);
    }

    static void promise11TheFirstAndTheLastCell() {
        for (int i : new int[] {0, 80}) {
            FarPairs x = new FarPairs();
            x.shape(0, 3, 3, 999999);
            x.shape(1, 3, 3, 333333);
            x.cell(0, i / 9, i % 9, 3);
            Due.is("unlike", x.same(0, 1), 0);
            x.cell(1, i / 9, i % 9, 1);
            Due.is("alike, with another whole", x.same(0, 1), 1);
            Due.is("turned about", x.same(1, 0), 1);
            x.cell(0, i / 9, i % 9, 4);
            Due.is("unlike by a millionth", x.same(0, 1), 0);
        }
    }

    static void promise11GreatProducts() {
        FarPairs x = new FarPairs();
        x.shape(0, 1, 2, 1000000);
        x.shape(1, 1, 2, 999999);
        x.cell(0, 0, 0, 1000000);
        x.cell(1, 0, 0, 999999);
        Due.is("both wholes", x.same(0, 1), 1);
        x.cell(1, 0, 0, 999998);
        Due.is("less by one", x.same(0, 1), 0);
        // 65536 * 65536 is 0 in 32 bits.
        x.shape(2, 1, 2, 65536);
        x.shape(3, 1, 2, 131072);
        x.cell(2, 0, 0, 65536);
        Due.is("1 is not 0", x.same(2, 3), 0);
    }
}
