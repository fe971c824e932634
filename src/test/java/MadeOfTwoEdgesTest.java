import java.util.function.Consumer;

/** The edges that promises 28 to 32 name: one test for each, named by the promise. */
public final class MadeOfTwoEdgesTest {
    private static final Consumer<FarPairs> EMPTY = Edges::empty;
    private static final Consumer<FarPairs> SOME = Edges::some;
    private static final Consumer<FarPairs> BOTH = Edges.both((x, t) -> x.corner(t, 9));
    private static final int LEAST = Integer.MIN_VALUE;
    private static final int GREATEST = Integer.MAX_VALUE;
    private static final int[] ROWS_OF_TWO = {0, 1, 3, 4};
    private static final int ONE_AND_ONE = 1001 + 1;
    private static final int THE_MOST = 1001 * 1000 + 1000;

    public static void main(String[] args) throws Exception {
        Edges.run(MadeOfTwoEdgesTest.class, "promise", 28, 32);
        Due.end();
    }

    /** A table of one question: once answers 0, 0, and else the answers that are told. */
    private static void once(FarPairs x, int t, int whole, int answers) {
        x.shape(t, 1, 2, whole);
        x.cell(t, 0, 0, 1);
        x.cell(t, 0, answers, whole - 1);
    }

    /** Tables 0 and 1 that are WIRED: of answers 0, 0 come 1 and the rest, of answers 0, 1 two and the rest. */
    private static Consumer<FarPairs> wired(int whole, int otherWhole) {
        return x -> {
            once(x, 0, whole, 1);
            x.shape(1, 2, 2, otherWhole);
            for (int row : ROWS_OF_TWO) {
                x.cell(1, row, 0, row == 1 ? 2 : 1);
                x.cell(1, row, 1, otherWhole - (row == 1 ? 2 : 1));
            }
            x.corner(2, 17);
        };
    }

    /** Tables 0 and 1 of which PARITY has the CELL 1, so that nothing divides it. */
    private static Consumer<FarPairs> once(int whole, int otherWhole) {
        return x -> {
            once(x, 0, whole, 1);
            once(x, 1, otherWhole, 3);
            x.corner(2, 17);
        };
    }

    // ---- 28: wire

    static void promise28Tables() {
        Edges.tables(BOTH, (x, t) -> x.wire(t, 0, 1), 1);
        Edges.tables(BOTH, (x, s) -> x.wire(0, s, 1), 1);
        Edges.tables(BOTH, (x, r) -> x.wire(0, 7, r), 1);
    }

    static void promise28BadStandsAheadOfNo() {
        Edges.refusedEach("t, s is missing", SOME, (x, t) -> x.wire(t, 7, 0), Due.BAD, -1, 8);
        Edges.refusedEach("s, t is not proper", SOME, (x, s) -> x.wire(3, s, 0), Due.BAD, -1, 8);
        Edges.refusedEach("r, both are missing", SOME, (x, r) -> x.wire(7, 5, r), Due.BAD, -1, 8);
        Edges.refusedEach("r, they do not fit", SOME, (x, r) -> x.wire(0, 1, r), Due.BAD, -1, 8);
    }

    static void promise28BadStandsAheadOfFull() {
        Edges.refusedEach("r", wired(101, 9901), (x, r) -> x.wire(0, 1, r), Due.BAD, -1, 8);
    }

    static void promise28Missing() {
        Edges.refusedEach("t", SOME, (x, t) -> x.wire(t, 0, 1), Due.NO, 5, 7);
        Edges.refusedEach("s", SOME, (x, s) -> x.wire(0, s, 1), Due.NO, 5, 7);
        Edges.refused("both", EMPTY, x -> x.wire(0, 0, 0), Due.NO);
    }

    static void promise28NotProper() {
        Edges.refused("t", SOME, x -> x.wire(3, 0, 1), Due.NO);
        Edges.refused("s", SOME, x -> x.wire(0, 3, 1), Due.NO);
        Edges.refused("both", SOME, x -> x.wire(3, 3, 3), Due.NO);
    }

    static void promise28NotSilentIsTaken() {
        Edges.takenEach("t", SOME, (x, t) -> x.wire(t, 0, 7), 2, 6);
        Edges.takenEach("s", SOME, (x, s) -> x.wire(0, s, 7), 2, 6);
    }

    static void promise28TheyFitByAnswersAndQuestions() {
        for (int q = 1; q <= 3; q++)
            for (int a = 2; a <= 3; a++)
                for (int p = 1; p <= 3; p++)
                    for (int b = 2; b <= 3; b++) {
                        FarPairs x = new FarPairs();
                        x.sure(0, q, a, 0);
                        x.sure(1, p, b, 0);
                        Due.is("wire", x.wire(0, 1, 2), a == p ? 1 : Due.NO);
                        Due.is("questions", x.about(2, 0), a == p ? q : Due.NO);
                        Due.is("answers", x.about(2, 1), a == p ? b : Due.NO);
                    }
    }

    static void promise28DoNotFitChangesNothing() {
        Edges.refused("2 answers, 1 question", SOME, x -> x.wire(0, 1, 2), Due.NO);
        Edges.refused("2 answers, 3 questions", SOME, x -> x.wire(1, 2, 0), Due.NO);
        Edges.refused("3 answers, 2 questions", SOME, x -> x.wire(4, 0, 1), Due.NO);
    }

    static void promise28NoStandsAheadOfFull() {
        Edges.refused("they do not fit", x -> {
            once(x, 0, 1000000, 1);
            once(x, 1, 999999, 1);
        }, x -> x.wire(0, 1, 2), Due.NO);
    }

    static void promise28AMillionAndOneMore() {
        // A cell is 1 * 1 + 63 * 2 = 127, or 1 * 1 + 100 * 2 = 201: neither has a divisor in common with the whole.
        Edges.takenEach("64 * 15625", wired(64, 15625), (x, r) -> x.wire(0, 1, r), 1000000, 0, 1, 2, 7);
        Edges.refusedEach("101 * 9901", wired(101, 9901), (x, r) -> x.wire(0, 1, r), Due.FULL, 0, 1, 2, 7);
    }

    static void promise28DividedFirstAndThenLookedAt() {
        FarPairs x = new FarPairs();
        x.shape(0, 1, 2, 1000000);
        Edges.row(x, 0, 0, 500000, 0, 0, 0, 500000);
        x.shape(1, 2, 2, 1000000);
        for (int row : ROWS_OF_TWO) Edges.row(x, 1, row, 250000, 750000);
        Due.is("a million millions", x.wire(0, 1, 2), 4);
        Due.is("a quarter", x.chance(2, 0, 0), 1);
        Due.is("the rest", x.chance(2, 0, 1), 3);
        x.wire(0, 1, 0);
        Due.is("r is t", x.same(0, 2), 1);
    }

    static void promise28FullKeepsRAsItWas() {
        FarPairs x = new FarPairs();
        wired(1000000, 999999).accept(x);
        for (int r : new int[] {0, 1, 2, 7}) Due.is("full, r " + r, x.wire(0, 1, r), Due.FULL);
        Due.is("t stays", x.about(0, 2), 1000000);
        Due.is("s stays", x.about(1, 2), 999999);
        Due.is("r stays", x.about(2, 2), 2);
        Due.is("r is missing still", x.about(7, 2), Due.NO);
        Due.is("undo takes the corner back", x.undo(), 5);
        Due.is("it is gone", x.about(2, 2), Due.NO);
    }

    static void promise28AllAreOne() {
        FarPairs x = new FarPairs();
        x.sure(0, 2, 2, 6);
        // F is 1, G is 2: the first one answers 1, 0, and so twice over: 0, 1. The other one 0, 1 stays.
        Due.is("r is t and s", x.wire(0, 0, 0), 1);
        Due.is("number", x.number(0), 2 * 4 + 2);
    }

    // ---- 29: blend

    static void promise29Tables() {
        Edges.tables(BOTH, (x, t) -> x.blend(t, 0, 1, ONE_AND_ONE), 1);
        Edges.tables(BOTH, (x, s) -> x.blend(0, s, 1, ONE_AND_ONE), 1);
        Edges.tables(BOTH, (x, r) -> x.blend(0, 7, r, ONE_AND_ONE), 1);
    }

    static void promise29BothSharesFromZeroToAThousand() {
        Edges.takenEach("v and w", BOTH, (x, v) -> x.blend(0, 7, 1, v), 1, 1, 1000, 1001, 1001 * 1000, THE_MOST);
        Edges.refusedEach("v and w", BOTH, (x, v) -> x.blend(0, 7, 1, v), Due.BAD, THE_MOST + 1, -1, LEAST, GREATEST);
    }

    static void promise29NotBothZero() {
        Edges.refused("both", BOTH, x -> x.blend(0, 7, 1, 0), Due.BAD);
    }

    /** Of tables 0 and 1, which always answer 0, 0 and 1, 1: how often 0, 0, and of how many. */
    private static void blendIs(int vAndW, long zeros, long whole) {
        FarPairs x = new FarPairs();
        x.sure(0, 1, 2, 0);
        x.sure(1, 1, 2, 3);
        Due.is("whole of " + vAndW, x.blend(0, 1, 2, vAndW), whole);
        Due.is("of t in " + vAndW, x.chance(2, 0, 0), zeros);
        Due.is("of s in " + vAndW, x.chance(2, 0, 4), whole - zeros);
    }

    static void promise29WhichIsVAndWhichIsW() {
        blendIs(1, 0, 1);
        blendIs(1000, 0, 1);
        blendIs(1001, 1, 1);
        blendIs(1002, 1, 2);
        blendIs(1001 + 1000, 1, 1001);
        blendIs(2002, 1, 1);
        blendIs(1001 * 1000, 1, 1);
        blendIs(1001 * 1000 + 1, 1000, 1001);
        blendIs(1001 * 1000 + 999, 1000, 1999);
        blendIs(THE_MOST, 1, 2);
    }

    static void promise29BadStandsAheadOfNo() {
        Edges.refusedEach("v and w, t is missing", SOME, (x, v) -> x.blend(7, 0, 1, v), Due.BAD, 0, -1, THE_MOST + 1);
        Edges.refusedEach("v and w, another shape", SOME, (x, v) -> x.blend(0, 1, 1, v), Due.BAD, 0, -1, THE_MOST + 1);
        Edges.refusedEach("r, not proper", SOME, (x, r) -> x.blend(3, 0, r, 1), Due.BAD, -1, 8);
        Edges.refusedEach("s, t is missing", SOME, (x, s) -> x.blend(7, s, 0, 1), Due.BAD, -1, 8);
        Edges.refusedEach("t, s is missing", SOME, (x, t) -> x.blend(t, 7, 0, 1), Due.BAD, -1, 8);
    }

    static void promise29BadStandsAheadOfFull() {
        Edges.refusedEach("r", once(101, 9901), (x, r) -> x.blend(0, 1, r, ONE_AND_ONE), Due.BAD, -1, 8);
        Edges.refusedEach("v and w", once(101, 9901), (x, v) -> x.blend(0, 1, 2, v), Due.BAD, 0, THE_MOST + 1);
    }

    static void promise29Missing() {
        Edges.refusedEach("t", SOME, (x, t) -> x.blend(t, 0, 1, 1), Due.NO, 5, 7);
        Edges.refusedEach("s", SOME, (x, s) -> x.blend(0, s, 1, 1001), Due.NO, 5, 7);
    }

    static void promise29NotProper() {
        // Even where the one that is not proper has no share.
        Edges.refused("t", SOME, x -> x.blend(3, 0, 1, 1), Due.NO);
        Edges.refused("s", SOME, x -> x.blend(0, 3, 1, 1001), Due.NO);
    }

    static void promise29OfOneShapeOnly() {
        int[][] shapes = {{1, 2}, {1, 3}, {2, 2}, {2, 3}, {3, 2}, {3, 3}};
        for (int[] one : shapes)
            for (int[] other : shapes) {
                FarPairs x = new FarPairs();
                x.sure(0, one[0], one[1], 0);
                x.sure(1, other[0], other[1], 0);
                Due.is("blend", x.blend(0, 1, 2, ONE_AND_ONE), one == other ? 1 : Due.NO);
            }
        Edges.refusedEach("shape", SOME, (x, s) -> x.blend(0, s, 7, ONE_AND_ONE), Due.NO, 1, 2, 4);
    }

    static void promise29NoStandsAheadOfFull() {
        Edges.refused("another shape", x -> {
            once(x, 0, 999999, 1);
            x.shape(1, 1, 3, 1000000);
            Edges.row(x, 1, 0, 1, 999999);
        }, x -> x.blend(0, 1, 2, THE_MOST), Due.NO);
    }

    static void promise29AMillionAndOneMore() {
        // 32 * 15625 * 2 is a million, and 15625 + 32 has neither 2 nor 5.
        Edges.takenEach("a million", once(32, 15625), (x, r) -> x.blend(0, 1, r, ONE_AND_ONE), 1000000, 0, 1, 2, 7);
        // 101 * 9901 * 2 is 2000002, and all is even.
        Edges.refusedEach("one more", once(101, 9901), (x, r) -> x.blend(0, 1, r, ONE_AND_ONE), Due.FULL, 0, 1, 2, 7);
    }

    static void promise29DividedFirstAndThenLookedAt() {
        Edges.takenEach("t alone", once(1000000, 999999), (x, v) -> x.blend(0, 1, 2, v), 1000000, 1001, 1001 * 1000);
        Edges.takenEach("s alone", once(1000000, 999999), (x, w) -> x.blend(0, 1, 2, w), 999999, 1, 1000);
        Edges.takenEach("itself", once(1000000, 999999), (x, v) -> x.blend(0, 0, 2, v), 1000000, ONE_AND_ONE, THE_MOST);
        Edges.refused("both", once(1000000, 999999), x -> x.blend(0, 1, 2, ONE_AND_ONE), Due.FULL);
        Edges.refused("both, the most", once(1000000, 999999), x -> x.blend(0, 1, 2, THE_MOST), Due.FULL);
    }

    static void promise29TheShapeIsThatOfBoth() {
        for (int[] s : new int[][] {{1, 2}, {3, 3}}) {
            FarPairs x = new FarPairs();
            x.shape(0, s[0], s[1], 2);
            for (int row = 0; row < 9; row++) x.cell(0, row, 0, 2);
            // What was made last is of another shape.
            x.corner(1, 16);
            Due.is("blend", x.blend(0, 0, 1, 1), 1);
            Due.is("questions", x.about(1, 0), s[0]);
            Due.is("answers", x.about(1, 1), s[1]);
            Due.is("cells", x.about(1, 3), s[0] * s[0]);
        }
    }

    static void promise29TheResultMayStandInTOrS() {
        for (int r = 0; r < 2; r++) {
            FarPairs x = new FarPairs();
            x.sure(0, 1, 2, 0);
            x.sure(1, 1, 2, 3);
            Due.is("r " + r, x.blend(0, 1, r, 1001 * 2 + 1), 3);
            Due.is("of t", x.chance(r, 0, 0), 2);
            Due.is("of s", x.chance(r, 0, 4), 1);
            Due.is("the other one stays", x.about(1 - r, 2), 1);
        }
    }

    // ---- 30: parity

    static void promise30Tables() {
        Edges.tables(BOTH, (x, t) -> x.parity(t, 0, 1), 1);
        Edges.tables(BOTH, (x, s) -> x.parity(0, s, 1), 1);
        Edges.tables(BOTH, (x, r) -> x.parity(0, 7, r), 1);
    }

    static void promise30BadStandsAheadOfNo() {
        Edges.refusedEach("t, s is missing", SOME, (x, t) -> x.parity(t, 7, 0), Due.BAD, -1, 8);
        Edges.refusedEach("s, t is not proper", SOME, (x, s) -> x.parity(3, s, 0), Due.BAD, -1, 8);
        Edges.refusedEach("r, three answers", SOME, (x, r) -> x.parity(2, 2, r), Due.BAD, -1, 8);
    }

    static void promise30BadStandsAheadOfFull() {
        Edges.refusedEach("r", once(101, 9901), (x, r) -> x.parity(0, 1, r), Due.BAD, -1, 8);
    }

    static void promise30Missing() {
        Edges.refusedEach("t", SOME, (x, t) -> x.parity(t, 0, 1), Due.NO, 5, 7);
        Edges.refusedEach("s", SOME, (x, s) -> x.parity(0, s, 1), Due.NO, 5, 7);
    }

    static void promise30NotProper() {
        Edges.refused("t", SOME, x -> x.parity(3, 0, 1), Due.NO);
        Edges.refused("s", SOME, x -> x.parity(0, 3, 1), Due.NO);
    }

    static void promise30OfTwoAnswersAndQuestionsAlike() {
        int[][] shapes = {{1, 2}, {1, 3}, {2, 2}, {2, 3}, {3, 2}, {3, 3}};
        for (int[] one : shapes)
            for (int[] other : shapes) {
                FarPairs x = new FarPairs();
                x.sure(0, one[0], one[1], 0);
                x.sure(1, other[0], other[1], 0);
                Due.is("parity", x.parity(0, 1, 2), one == other && one[1] == 2 ? 1 : Due.NO);
            }
        Edges.refusedEach("they do not fit", SOME, (x, s) -> x.parity(0, s, 7), Due.NO, 1, 2, 4);
        Edges.refused("three answers of both", SOME, x -> x.parity(4, 4, 7), Due.NO);
    }

    static void promise30NoStandsAheadOfFull() {
        Edges.refused("three answers", x -> {
            x.shape(0, 1, 3, 999999);
            Edges.row(x, 0, 0, 1, 999998);
        }, x -> x.parity(0, 0, 1), Due.NO);
    }

    static void promise30AMillionAndOneMore() {
        Edges.takenEach("1000 * 1000", once(1000, 1000), (x, r) -> x.parity(0, 1, r), 1000000, 0, 1, 2, 7);
        Edges.refusedEach("101 * 9901", once(101, 9901), (x, r) -> x.parity(0, 1, r), Due.FULL, 0, 1, 2, 7);
        Edges.refusedEach("a million by 999999", once(1000000, 999999), (x, r) -> x.parity(0, 1, r), Due.FULL, 0, 1, 2);
    }

    static void promise30DividedFirstAndThenLookedAt() {
        FarPairs x = new FarPairs();
        x.shape(0, 3, 2, 1000000);
        for (int row = 0; row < 9; row++) Edges.row(x, 0, row, 500000, 0, 0, 0, 500000);
        Due.is("a million millions", x.parity(0, 0, 0), 2);
        for (int row = 0; row < 9; row++) Due.is("row " + row, x.chance(0, row, 4), 1);
    }

    static void promise30OfAllSureOnes() {
        for (int n = 0; n < 16; n++)
            for (int m = 0; m < 16; m++) {
                FarPairs x = new FarPairs();
                x.corner(0, n);
                x.corner(1, m);
                Due.is("parity", x.parity(0, 1, 2), 1);
                // Each digit is an answer, and digits to the base 2 are bits.
                Due.is("number", x.number(2), n ^ m);
            }
    }

    static void promise30OfThreeQuestions() {
        FarPairs x = new FarPairs();
        x.sure(0, 3, 2, 63);
        Due.is("with itself", x.parity(0, 0, 1), 1);
        Due.is("all answers are 0", x.number(1), 0);
        Due.is("with none", x.parity(0, 1, 0), 1);
        Due.is("as it was", x.number(0), 63);
    }

    // ---- 31: undo

    static void promise31NothingIsKept() {
        Edges.refused("a new object", EMPTY, FarPairs::undo, Due.NO);
        Edges.refused("a law and shares alone", x -> {
            x.take(3);
            x.weigh(0, 0, 9);
            x.share(3, 9);
        }, FarPairs::undo, Due.NO);
        Edges.refused("refused calls alone", x -> {
            x.lose(0);
            x.corner(0, 24);
            x.mixed(0);
        }, FarPairs::undo, Due.NO);
    }

    static void promise31AllAreTakenBack() {
        Edges.refused("all six", x -> {
            Edges.some(x);
            for (int i = 0; i < 6; i++) x.undo();
        }, FarPairs::undo, Due.NO);
    }

    static void promise31SixAreKeptAndTheSeventhIsNot() {
        for (int changes = 1; changes <= 20; changes++) {
            FarPairs x = new FarPairs();
            for (int i = 1; i <= changes; i++) x.shape(0, 1, 2, i);
            int kept = Math.min(6, changes);
            Due.is("kept", x.count(3), kept);
            for (int i = 1; i <= kept; i++) {
                Due.is("kept still", x.undo(), kept - i);
                Due.is("whole", x.about(0, 2), changes == i ? Due.NO : changes - i);
            }
            Due.is("no more", x.undo(), Due.NO);
            Due.is("it stays", x.about(0, 2), changes == kept ? Due.NO : changes - kept);
        }
    }

    static void promise31NewChangesAfterSomeAreTakenBack() {
        FarPairs x = new FarPairs();
        for (int i = 1; i <= 9; i++) x.shape(0, 1, 2, i);
        for (int i = 0; i < 4; i++) x.undo();
        Due.is("two are left", x.count(3), 2);
        for (int i = 1; i <= 5; i++) x.shape(0, 1, 2, 100 + i);
        Due.is("six", x.count(3), 6);
        long[] want = {104, 103, 102, 101, 5, 4};
        for (int i = 0; i < 6; i++) {
            Due.is("kept still", x.undo(), 5 - i);
            Due.is("whole", x.about(0, 2), want[i]);
        }
        Due.is("no more", x.undo(), Due.NO);
    }

    static void promise31UndoIsNoChangeItself() {
        FarPairs x = new FarPairs();
        x.corner(0, 1);
        x.corner(0, 2);
        x.undo();
        x.undo();
        Due.is("not taken back in turn", x.undo(), Due.NO);
        Due.is("missing", x.about(0, 0), Due.NO);
    }

    static void promise31TablesAlone() {
        FarPairs x = new FarPairs();
        x.corner(0, 0);
        x.begin(3, 3);
        x.weigh(8, 8, 1000);
        x.share(728, 1000000);
        Due.is("undo", x.undo(), 0);
        Due.is("the law", x.weigh(8, 8, 0), 1000);
        Due.is("the share", x.share(728, 0), 1000000);
        Due.is("the table", x.about(0, 0), Due.NO);
    }

    /** Call number i on tables 0 and 7; all of them are CHANGES. */
    private static long change(FarPairs x, int i) {
        switch (i) {
            case 0: return x.shape(7, 3, 3, 1000000);
            case 1: return x.lose(0);
            case 2: return x.cell(0, 4, 4, 2);
            case 3: return x.sure(7, 1, 2, 0);
            case 4: return x.corner(7, 23);
            case 5: return x.mixed(7);
            case 6: return x.wire(0, 0, 7);
            case 7: return x.blend(0, 0, 7, THE_MOST);
            case 8: return x.parity(0, 0, 7);
            case 9: return x.swap(0, 4, 0, 1);
            default: return x.turn(0, 2);
        }
    }

    static void promise31EachChangeIsKeptAndTakenBack() {
        for (int i = 0; i < 11; i++) {
            int number = i;
            Consumer<FarPairs> made = x -> {
                x.corner(0, 16);
                x.share(3, 4);
            };
            FarPairs x = new FarPairs();
            made.accept(x);
            Due.holds("change " + i + " is not refused", change(x, i) >= 0);
            Due.is("change " + i + " is kept", x.count(3), 2);
            Due.is("kept still", x.undo(), 1);
            Due.holds("change " + i + " and undo: as it was", Twin.sameWith(made, y -> change(y, number) + y.undo()));
        }
    }

    static void promise31ACellToTheSameIsAChange() {
        FarPairs x = new FarPairs();
        x.shape(0, 1, 2, 1);
        Due.is("cell", x.cell(0, 0, 0, 0), 0);
        Due.is("kept", x.count(3), 2);
        Due.is("undo", x.undo(), 1);
        Due.is("the table stays", x.about(0, 2), 1);
    }

    // ---- 32: count

    static void promise32What() {
        Edges.takenEach("what", EMPTY, FarPairs::count, 0, 0, 1, 2, 3, 4);
        Edges.takenEach("what", EMPTY, FarPairs::count, 16, 5);
        Edges.refusedEach("what", SOME, FarPairs::count, Due.BAD, -1, 6, LEAST, GREATEST);
    }

    static void promise32NoTableAndAllTables() {
        FarPairs x = new FarPairs();
        for (int t = 0; t < 8; t++) {
            Due.is("tables", x.count(0), t);
            x.shape(t, 1, 2, 1);
        }
        Due.is("all", x.count(0), 8);
        x.shape(7, 1, 2, 1);
        Due.is("not more", x.count(0), 8);
        for (int t = 0; t < 8; t++) x.lose(t);
        Due.is("none", x.count(0), 0);
        Due.is("undo", x.undo(), 5);
        Due.is("one again", x.count(0), 1);
    }

    static void promise32NoShareAndThirty() {
        FarPairs x = new FarPairs();
        x.begin(3, 3);
        for (int n = 0; n < 30; n++) {
            Due.is("how many", x.count(1), n);
            Due.is("together", x.count(2), 1000000L * n);
            x.share(728 - n, 1000000);
        }
        Due.is("thirty", x.count(1), 30);
        Due.is("together", x.count(2), 30000000);
        x.share(0, 1);
        Due.is("not more", x.count(1), 30);
        x.share(728, 0);
        Due.is("fewer", x.count(1), 29);
        Due.is("together", x.count(2), 29000000);
    }

    static void promise32NoChangeAndSix() {
        FarPairs x = new FarPairs();
        for (int i = 0; i < 10; i++) {
            Due.is("kept", x.count(3), Math.min(6, i));
            x.corner(i % 8, i);
        }
        for (int i = 5; i >= 0; i--) {
            x.undo();
            Due.is("kept", x.count(3), i);
        }
        x.undo();
        Due.is("none", x.count(3), 0);
    }

    static void promise32NoWeightAndAll() {
        FarPairs x = new FarPairs();
        x.begin(3, 3);
        for (int i = 0; i < 81; i++) {
            Due.is("weights", x.count(4), i);
            x.weigh(i / 9, i % 9, i % 2 == 0 ? 1000 : -1000);
        }
        Due.is("all", x.count(4), 81);
        x.weigh(8, 8, 0);
        Due.is("all but one", x.count(4), 80);
    }

    static void promise32SureTablesOfEachShape() {
        int[][] shapes = {{1, 2, 4}, {1, 3, 9}, {2, 2, 16}, {2, 3, 81}, {3, 2, 64}, {3, 3, 729}};
        for (int[] s : shapes) {
            FarPairs x = new FarPairs();
            x.begin(s[0], s[1]);
            Due.is("of " + s[0] + ", " + s[1], x.count(5), s[2]);
            x.take(0);
            Due.is("of two and two", x.count(5), 16);
        }
    }
}
