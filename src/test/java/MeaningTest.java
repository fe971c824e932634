import java.util.Random;

/** What the words of 'Terms' mean, where the calls go by a formula: each is tried on tables made for it. */
public final class MeaningTest {
    private static final int ROUNDS = 200;
    private static final int[][] SHAPES = {{1, 2}, {1, 3}, {2, 2}, {2, 3}, {3, 2}, {3, 3}};
    private static final int[] ROWS = {0, 1, 3, 4};

    private final Random random;
    private final FarPairs x = new FarPairs();

    private MeaningTest(int seed) {
        random = new Random(seed);
    }

    public static void main(String[] args) {
        for (int seed = 0; seed < ROUNDS; seed++) {
            Due.within("round " + seed);
            new MeaningTest(seed).mixesAreLocal();
            for (int[] shape : SHAPES) new MeaningTest(seed).mixesBreakNoLaw(shape[0], shape[1]);
            new MeaningTest(seed).nearIsTheGreatestShare();
            new MeaningTest(seed).noiseIsTheLeastShare();
            new MeaningTest(seed).noSilentTableHasMorePoints();
            new MeaningTest(seed).aBitTellsTwoQuestionsApart();
            new MeaningTest(seed).madeOfTwoKeepsTheKind();
            new MeaningTest(seed).exchangesKeepTheKind();
        }
        Due.within("");
        Due.end();
    }

    private int below(int limit) {
        return random.nextInt(limit);
    }

    private void someShares() {
        int sures = (int) x.count(5);
        for (int i = below(6); i >= 0; i--) x.share(below(sures), 1 + below(9));
    }

    private void someWeights(int least, int most) {
        for (int i = 0; i < 81; i++) x.weigh(i / 9, i % 9, least + below(most - least + 1));
    }

    /** A corner that is not LOCAL has the greater share, so that the blend mostly is not. */
    private void farPair(int t) {
        x.corner(5, 16 + below(8));
        x.corner(6, below(24));
        x.blend(5, 6, t, 1001 * (3 + below(5)) + below(6));
    }

    private void even(int t) {
        x.shape(t, 2, 2, 4);
        for (int questions : ROWS) for (int answers : ROWS) x.cell(t, questions, answers, 1);
    }

    private void mixesAreLocal() {
        x.begin(1 + below(2), 2);
        someShares();
        x.mixed(0);
        Due.is("a mix is LOCAL", x.isOf(0, 3), 1);
        Due.is("the shares make it", x.makes(0), 0);
        if (x.about(0, 0) == 1) return;
        Due.is("a mix breaks no corner law", x.broken(0), Due.NONE);
        Due.is("a mix is LOCAL whole", x.near(0, 0, 0), 1);
        Due.is("a mix is LOCAL whole", x.near(0, 0, 1), 1);
        Due.is("a mix needs no noise", x.near(0, 1, 0), 0);
        Due.is("a mix needs no noise", x.near(0, 1, 1), 1);
    }

    private void mixesBreakNoLaw(int q, int a) {
        x.begin(q, a);
        someWeights(-20, 20);
        someShares();
        x.mixed(0);
        Due.is("a mix breaks no law", x.breaks(0), 0);
        Due.holds("nor has it less than the least", x.value(0, 0) >= x.bound(3) * x.value(0, 1));
        x.sure(1, q, a, (int) x.bound(1));
        Due.is("the table that has the bound has it", x.value(1, 0), x.bound(0));
    }

    /** The corner that has the most of a corner law. */
    private int cornerOfLaw(int k) {
        for (int corner = 16; corner < 24; corner++) {
            x.corner(7, corner);
            if (x.law(7, k) == 8) return corner;
        }
        return -1;
    }

    private void nearIsTheGreatestShare() {
        farPair(0);
        if (x.broken(0) == Due.NONE) return;
        int k = (int) x.broken(0);
        x.corner(1, cornerOfLaw(k));
        long above = x.near(0, 0, 0), below = x.near(0, 0, 1);
        if (above == 0) {
            Due.is("nothing of a corner is LOCAL", x.same(0, 1), 1);
            return;
        }
        rest(above, below, 2);
        Due.is("the rest is LOCAL", x.isOf(2, 3), 1);
        Due.holds("v and w can be told", below <= 1000);
        x.blend(2, 1, 3, (int) (1001 * above + below - above));
        Due.is("the rest and the corner make the table", x.same(0, 3), 1);
        // More by a hundredth of a part below the line.
        rest(100 * above + 1, 100 * below, 4);
        Due.is("with more than that it is not LOCAL", x.isOf(4, 3), 0);
    }

    /** Table t is what stays of table 0, as a share above / below of it, without the corner in table 1. */
    private void rest(long above, long below, int t) {
        long whole = 2 * above * x.about(0, 2);
        Due.is("the rest has a shape", x.shape(t, 2, 2, (int) whole), 16);
        for (int questions : ROWS)
            for (int answers : ROWS) {
                long v = 2 * below * x.chance(0, questions, answers)
                    - (below - above) * x.chance(1, questions, answers) * x.about(0, 2);
                Due.is("a cell of the rest", x.cell(t, questions, answers, (int) v), 0);
            }
        Due.is("the rest is PROPER", x.isOf(t, 1), 1);
    }

    private void noiseIsTheLeastShare() {
        farPair(0);
        even(1);
        if (x.broken(0) == Due.NONE) return;
        int k = (int) x.broken(0);
        int above = (int) x.near(0, 1, 0), below = (int) x.near(0, 1, 1);
        x.blend(0, 1, 2, 1001 * (below - above) + above);
        Due.is("with the noise it is LOCAL", x.isOf(2, 3), 1);
        Due.is("with the noise it is just so", x.law(2, k), 2 * x.about(2, 2));
        int part = 1000 / below;
        x.blend(0, 1, 2, 1001 * (part * (below - above) + 1) + part * above - 1);
        Due.is("with less it is not LOCAL", x.isOf(2, 3), 0);
    }

    private void noSilentTableHasMorePoints() {
        someWeights(-9, 9);
        farPair(0);
        Due.holds("no silent table has more", 2 * x.value(0, 0) <= x.best(0) * x.value(0, 1));
        x.corner(1, (int) x.best(1));
        Due.is("the best corner has it", 2 * x.value(1, 0), x.best(0) * x.value(1, 1));
        Due.holds("by lots there is no more", 2 * x.bound(0) <= x.best(0));
        someWeights(0, 9);
        Due.holds("twice at once is no less than each by itself", x.best(3) >= x.bound(0) * x.bound(0));
        long all = x.best(2) * x.best(2);
        Due.holds("nor is it more than with a bit in each", x.best(3) <= all);
    }

    private void aBitTellsTwoQuestionsApart() {
        int[] weights = new int[81];
        for (int questions : ROWS)
            for (int answers : ROWS) {
                weights[9 * questions + answers] = below(41) - 20;
                x.weigh(questions, answers, weights[9 * questions + answers]);
            }
        long sum = 0;
        for (int asked = 0; asked < 2; asked++) {
            long most = Long.MIN_VALUE;
            for (int a = 0; a < 2; a++) {
                int low = 27 * asked + 3 * a, high = low + 9;
                most = Math.max(most, Math.max(weights[low], weights[low + 1]) + Math.max(weights[high], weights[high + 1]));
            }
            sum += most;
        }
        Due.is("told which question it was", x.best(2), sum);
    }

    private void localPair() {
        for (int t = 0; t < 2; t++) {
            x.begin(2, 2);
            someShares();
            x.mixed(t);
        }
    }

    private void madeOfTwoKeepsTheKind() {
        localPair();
        farPair(2);
        farPair(3);
        for (int low = 0; low < 4; low += 2) {
            int kind = low == 0 ? 3 : 2;
            x.wire(low, low + 1, 4);
            Due.is("wired", x.isOf(4, kind), 1);
            x.parity(low, low + 1, 4);
            Due.is("parity", x.isOf(4, kind), 1);
            x.blend(low, low + 1, 4, 1001 * 3 + 2);
            Due.is("blended", x.isOf(4, kind), 1);
        }
    }

    private void exchangesKeepTheKind() {
        farPair(0);
        x.blend(0, 0, 1, 1);
        for (int i = 0; i < 5; i++) {
            if (below(2) == 0) x.turn(1, below(3));
            else x.swap(1, 3 * below(2) + below(2), 0, 1);
        }
        for (int kind = 1; kind < 5; kind++) Due.is("exchanged, of kind " + kind, x.isOf(1, kind), x.isOf(0, kind));
        for (int i = 0; i < 4; i++) Due.is("exchanged, near", x.near(1, i / 2, i % 2), x.near(0, i / 2, i % 2));
    }
}
