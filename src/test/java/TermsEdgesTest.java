import java.util.function.Consumer;

/** The edges that 'Terms' 1 to 6 names and that run through several promises: one test for each. */
public final class TermsEdgesTest {
    private static final Consumer<FarPairs> SOME = Edges::some;
    private static final int[] ROWS_OF_TWO = {0, 1, 3, 4};

    public static void main(String[] args) throws Exception {
        Edges.run(TermsEdgesTest.class, "terms", 1, 6);
        Due.end();
    }

    // ---- the lines ahead of 1

    static void terms0TheConstants() {
        Due.is("BAD", FarPairs.BAD, -9000000000000000001L);
        Due.is("NO", FarPairs.NO, -9000000000000000002L);
        Due.is("FULL", FarPairs.FULL, -9000000000000000003L);
        Due.is("LARGE", FarPairs.LARGE, -9000000000000000004L);
        Due.is("NONE", FarPairs.NONE, -9000000000000000005L);
    }

    static void terms0AnObjectIsGoodForAllOf512Calls() {
        FarPairs x = new FarPairs();
        x.shape(0, 1, 2, 1000000);
        for (int i = 1; i < 510; i++) Due.is("call " + i, x.cell(0, 0, 0, i), i - 1);
        Due.is("call 511", x.undo(), 5);
        Due.is("call 512", x.chance(0, 0, 0), 508);
    }

    static void terms0AllOf512CallsMayBeDear() {
        FarPairs x = new FarPairs();
        for (int i = 0; i < 16; i++) x.weigh(i / 8 * 3 + i / 4 % 2, i / 2 % 2 * 3 + i % 2, 100);
        for (int i = 16; i < 512; i++) Due.is("call " + i, x.best(i % 2 + 2), i % 2 == 1 ? 160000 : 400);
    }

    static void terms0AFractionIsInLowestTermsAndAboveZeroBelow() {
        FarPairs x = new FarPairs();
        x.shape(0, 2, 2, 1000000);
        Due.is("0 by 1", x.value(0, 1), 1);
        x.cell(0, 0, 0, 1000000);
        for (int weight : new int[] {-1000, -1, 1, 1000}) {
            x.weigh(0, 0, weight);
            Due.is("above", x.value(0, 0), weight);
            Due.is("below", x.value(0, 1), 1);
        }
        x.cell(0, 0, 0, 1);
        x.weigh(0, 0, -1);
        Due.is("above", x.value(0, 0), -1);
        Due.is("below", x.value(0, 1), 1000000);
    }

    /** Every call with all arguments as wrong as can be. */
    static void terms0ARefusedCallChangesNothing() {
        for (int far : new int[] {Integer.MIN_VALUE, -1, 1000000007, Integer.MAX_VALUE}) {
            Edges.refused("shape", SOME, x -> x.shape(far, far, far, far), Due.BAD);
            Edges.refused("lose", SOME, x -> x.lose(far), Due.BAD);
            Edges.refused("cell", SOME, x -> x.cell(far, far, far, far), Due.BAD);
            Edges.refused("sure", SOME, x -> x.sure(far, far, far, far), Due.BAD);
            Edges.refused("corner", SOME, x -> x.corner(far, far), Due.BAD);
            Edges.refused("about", SOME, x -> x.about(far, far), Due.BAD);
            Edges.refused("chance", SOME, x -> x.chance(far, far, far), Due.BAD);
            Edges.refused("swap", SOME, x -> x.swap(far, far, far, far), Due.BAD);
            Edges.refused("turn", SOME, x -> x.turn(far, far), Due.BAD);
            Edges.refused("same", SOME, x -> x.same(far, far), Due.BAD);
            Edges.refused("isOf", SOME, x -> x.isOf(far, far), Due.BAD);
            Edges.refused("who", SOME, x -> x.who(far), Due.BAD);
            Edges.refused("number", SOME, x -> x.number(far), Due.BAD);
            Edges.refused("law", SOME, x -> x.law(far, far), Due.BAD);
            Edges.refused("broken", SOME, x -> x.broken(far), Due.BAD);
            Edges.refused("near", SOME, x -> x.near(far, far, far), Due.BAD);
            Edges.refused("begin", SOME, x -> x.begin(far, far), Due.BAD);
            Edges.refused("weigh", SOME, x -> x.weigh(far, far, far), Due.BAD);
            Edges.refused("take", SOME, x -> x.take(far), Due.BAD);
            Edges.refused("value", SOME, x -> x.value(far, far), Due.BAD);
            Edges.refused("bound", SOME, x -> x.bound(far), Due.BAD);
            Edges.refused("breaks", SOME, x -> x.breaks(far), Due.BAD);
            Edges.refused("best", SOME, x -> x.best(far), Due.BAD);
            Edges.refused("share", SOME, x -> x.share(far, far), Due.BAD);
            Edges.refused("mixed", SOME, x -> x.mixed(far), Due.BAD);
            Edges.refused("makes", SOME, x -> x.makes(far), Due.BAD);
            Edges.refused("wire", SOME, x -> x.wire(far, far, far), Due.BAD);
            Edges.refused("blend", SOME, x -> x.blend(far, far, far, far), Due.BAD);
            Edges.refused("parity", SOME, x -> x.parity(far, far, far), Due.BAD);
            Edges.refused("count", SOME, x -> x.count(far), Due.BAD);
        }
    }

    /** Calls that only ask change nothing, whatever they answer. */
    static void terms0AskingChangesNothing() {
        for (int t = 0; t < 8; t++) {
            int table = t;
            Due.holds("of table " + t, Twin.sameWith(SOME, x -> askAll(x, table)));
        }
    }

    private static long askAll(FarPairs x, int t) {
        for (int i = 0; i < 8; i++) x.law(t, i);
        for (int i = 0; i < 5; i++) x.isOf(t, i);
        for (int i = 0; i < 4; i++) {
            x.about(t, i);
            x.near(t, i / 2, i % 2);
            x.bound(i);
            x.best(i);
        }
        for (int i = 0; i < 6; i++) x.count(i);
        x.chance(t, 0, 0);
        x.same(t, 0);
        x.who(t);
        x.number(t);
        x.broken(t);
        x.value(t, 0);
        x.value(t, 1);
        x.breaks(t);
        return x.makes(t);
    }

    // ---- 1

    static void terms1EightTablesAreApart() {
        FarPairs x = new FarPairs();
        for (int t = 0; t < 8; t++) x.shape(t, 1, 2, t + 1);
        for (int t = 0; t < 8; t++) x.cell(t, 0, 4, t + 1);
        for (int t = 0; t < 8; t++) {
            Due.is("whole " + t, x.about(t, 2), t + 1);
            Due.is("cell " + t, x.chance(t, 0, 4), t + 1);
        }
    }

    static void terms1TheLeastAndTheGreatestShape() {
        FarPairs x = new FarPairs();
        Due.is("least", x.shape(0, 1, 2, 1), 4);
        Due.is("greatest", x.shape(1, 3, 3, 1000000), 81);
        Due.is("its first cell", x.cell(1, 0, 0, 1000000), 0);
        Due.is("its last cell", x.cell(1, 8, 8, 1000000), 0);
        Due.is("beyond the least", x.cell(0, 0, 5, 1), Due.BAD);
    }

    static void terms1RowsAreQuestionsXAndYAnswersAAndB() {
        FarPairs x = new FarPairs();
        x.sure(0, 3, 3, 2 * 27 + 1);
        // The first one answers 2 to question 0, else 0; the other one 1 to question 0, else 0.
        Due.is("x 0, y 0", x.chance(0, 0, 7), 1);
        Due.is("x 0, y 2", x.chance(0, 2, 6), 1);
        Due.is("x 2, y 0", x.chance(0, 6, 1), 1);
        Due.is("x 2, y 2", x.chance(0, 8, 0), 1);
    }

    static void terms1EachKindIsOfAllLesserOnes() {
        FarPairs x = new FarPairs();
        x.shape(0, 2, 2, 1);
        x.corner(1, 0);
        x.cell(1, 4, 0, 0);
        x.cell(1, 4, 4, 1);
        x.corner(2, 16);
        x.corner(3, 0);
        x.corner(4, 15);
        x.blend(3, 4, 3, 1002);
        for (int kind = 0; kind < 5; kind++)
            for (int t = 0; t < 5; t++) Due.is("table " + t + ", kind " + kind, x.isOf(t, kind), kind <= t ? 1 : 0);
    }

    static void terms1SureNumbersGoUpByTheFirstOneLast() {
        FarPairs x = new FarPairs();
        for (int n = 0; n < 9; n++) {
            x.sure(0, 1, 3, n);
            Due.is("number " + n, x.chance(0, 0, n), 1);
        }
    }

    // ---- 2

    static void terms2CornerLawsAreTwoOfEachE() {
        for (int row = 0; row < 4; row++) {
            FarPairs x = new FarPairs();
            x.corner(0, 0);
            // All E are 1 but one, which is -1.
            x.cell(0, ROWS_OF_TWO[row], 0, 0);
            x.cell(0, ROWS_OF_TWO[row], 1, 1);
            for (int k = 0; k < 8; k++) {
                int due = k / 2 == row ? 4 : 0;
                Due.is("row " + row + ", law " + k, x.law(0, k), k % 2 == 0 ? due : -due);
            }
        }
    }

    static void terms2AtMostOneLawIsAbove() {
        for (int k = 0; k < 24; k++) {
            FarPairs x = new FarPairs();
            x.corner(0, k);
            int above = 0;
            for (int law = 0; law < 8; law++) if (x.law(0, law) > 2 * x.about(0, 2)) above++;
            Due.is("corner " + k, above, k < 16 ? 0 : 1);
        }
    }

    static void terms2NoiseToTheEdge() {
        // The NOISE of a corner is a half: with that share of the EVEN table it is LOCAL, with less it is not.
        FarPairs x = new FarPairs();
        x.corner(0, 16);
        x.shape(1, 2, 2, 4);
        for (int row : ROWS_OF_TWO) Edges.row(x, 1, row, 1, 1, 0, 1, 1);
        x.blend(0, 1, 2, 1001 * 500 + 500);
        Due.is("a half", x.isOf(2, 3), 1);
        x.blend(0, 1, 2, 1001 * 501 + 500);
        Due.is("less than a half", x.isOf(2, 3), 0);
    }

    static void terms2CornersAreSilentAll() {
        for (int k = 0; k < 24; k++) {
            FarPairs x = new FarPairs();
            x.corner(0, k);
            Due.is("corner " + k, x.isOf(0, 2), 1);
            Due.is("local", x.isOf(0, 3), k < 16 ? 1 : 0);
        }
    }

    // ---- 3

    static void terms3TheLawAtFirst() {
        FarPairs x = new FarPairs();
        for (int row : ROWS_OF_TWO) for (int answers : ROWS_OF_TWO) Due.is("weight", x.weigh(row, answers, 0), 0);
        Due.is("no third question", x.weigh(2, 0, 0), Due.BAD);
        Due.is("no third answer", x.weigh(0, 2, 0), Due.BAD);
    }

    static void terms3WeightsToTheEdgeInTheBound() {
        FarPairs x = new FarPairs();
        x.begin(3, 3);
        for (int i = 0; i < 81; i++) x.weigh(i / 9, i % 9, i % 9 == 8 ? 1000 : -1000);
        Due.is("bound", x.bound(0), 9000);
        Due.is("the last", x.bound(1), 728);
        Due.is("least", x.bound(3), -9000);
        Due.is("told", x.best(2), 9000);
    }

    // ---- 4

    static void terms4SharesAreOfTheLawsShape() {
        FarPairs x = new FarPairs();
        Due.is("of two and two", x.share(16, 1), Due.BAD);
        x.begin(2, 3);
        Due.is("of two and three", x.share(80, 1), 0);
        Due.is("of two and three", x.share(81, 1), Due.BAD);
        x.mixed(0);
        Due.is("its number", x.number(0), 80);
    }

    static void terms4ThirtyGreatSharesMakeATable() {
        FarPairs x = new FarPairs();
        x.begin(3, 2);
        for (int n = 34; n < 64; n++) x.share(n, 1000000);
        Due.is("together", x.count(2), 30000000);
        Due.is("divided by a million, and by what else divides", x.mixed(0), 30);
        Due.is("they make it", x.makes(0), 0);
    }

    // ---- 5

    static void terms5ATableThatIsMadeIsInLowestTerms() {
        FarPairs x = new FarPairs();
        x.shape(0, 1, 2, 1000000);
        x.cell(0, 0, 0, 1000000);
        Due.is("as it was shaped", x.about(0, 2), 1000000);
        Due.is("blended with itself", x.blend(0, 0, 1, 1), 1);
        Due.is("parity with itself", x.parity(0, 0, 1), 1);
        x.sure(2, 2, 2, 0);
        Due.is("wired", x.wire(0, 2, 1), 1);
        Due.is("the one it is made of is not divided", x.about(0, 2), 1000000);
    }

    static void terms5OtherCallsDivideNothing() {
        FarPairs x = new FarPairs();
        x.shape(0, 1, 2, 6);
        Edges.row(x, 0, 0, 2, 4);
        x.swap(0, 0, 0, 1);
        x.turn(0, 0);
        Due.is("whole", x.about(0, 2), 6);
        Due.is("cell", x.chance(0, 0, 1), 2);
    }

    // ---- 6

    static void terms6SixChangesOnSeveralTables() {
        FarPairs x = new FarPairs();
        for (int t = 0; t < 8; t++) x.corner(t, t);
        Due.is("six are kept", x.count(3), 6);
        for (int t = 7; t >= 2; t--) {
            Due.is("kept still", x.undo(), t - 2);
            Due.is("table " + t + " is missing", x.about(t, 0), Due.NO);
        }
        Due.is("no more", x.undo(), Due.NO);
        Due.is("the first two stay", x.count(0), 2);
    }

    static void terms6CallsThatAreNoChangesAreNotKept() {
        FarPairs x = new FarPairs();
        x.corner(0, 16);
        x.begin(2, 2);
        x.weigh(0, 0, 1);
        x.take(0);
        x.share(0, 1);
        askAll(x, 0);
        Due.is("one is kept", x.count(3), 1);
        Due.is("undo", x.undo(), 0);
        Due.is("the corner is taken back", x.about(0, 0), Due.NO);
    }

    static void terms6RefusedCallsPushNothingOut() {
        FarPairs x = new FarPairs();
        for (int i = 1; i <= 6; i++) x.shape(0, 1, 2, i);
        for (int i = 0; i < 20; i++) {
            x.cell(0, 0, 0, 7);
            x.lose(1);
            x.wire(0, 0, 0);
            x.mixed(0);
        }
        Due.is("six", x.count(3), 6);
        for (int i = 5; i >= 1; i--) {
            Due.is("kept still", x.undo(), i);
            Due.is("whole", x.about(0, 2), i);
        }
        Due.is("the first", x.undo(), 0);
        Due.is("missing as at first", x.about(0, 2), Due.NO);
    }
}
