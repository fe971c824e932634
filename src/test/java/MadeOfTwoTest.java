/** Promises 28 to 32. */
public final class MadeOfTwoTest {
    private static final int[] NO_TABLES = {-1, 8, Integer.MIN_VALUE, Integer.MAX_VALUE};

    public static void main(String[] args) {
        promise28();
        promise28InPlace();
        promise28Refusals();
        promise29();
        promise29Refusals();
        promise30();
        promise30Refusals();
        promise31();
        promise31OfEach();
        promise32();
        Due.end();
    }

    private static void row(FarPairs x, int t, int questions, int... cells) {
        for (int i = 0; i < cells.length; i++) x.cell(t, questions, i, cells[i]);
    }

    /** Of a whole of a million: both answer 0, or both answer 1. */
    private static void halves(FarPairs x, int t, int q) {
        x.shape(t, q, 2, 1000000);
        for (int questions : new int[] {0, 1, 3, 4}) row(x, t, questions, 500000, 0, 0, 0, 500000);
    }

    private static void promise28() {
        FarPairs x = new FarPairs();
        x.shape(0, 1, 2, 4);
        row(x, 0, 0, 1, 2, 0, 0, 1);
        // Table 1: the first one answers 2, 0 to questions 0, 1, the other one 1, 2.
        x.sure(1, 2, 3, 2 * 9 + 7);
        Due.is("28: its whole", x.wire(0, 1, 2), 4);
        Due.is("28: questions", x.about(2, 0), 1);
        Due.is("28: answers", x.about(2, 1), 3);
        Due.is("28: of answers 0, 0", x.chance(2, 0, 7), 1);
        Due.is("28: of answers 0, 1", x.chance(2, 0, 8), 2);
        Due.is("28: of answers 1, 1", x.chance(2, 0, 2), 1);
        Due.is("28: no other", x.about(2, 3), 3);
        x.corner(3, 16);
        Due.is("28: divided", x.wire(0, 3, 4), 8);
        // (1 + 2) / 8 for parity 0 of questions 0, 0 and 0, 1; 1 / 8 for parity 1 of questions 1, 1.
        long[] want = {3, 1, 0, 1, 3};
        for (int i : new int[] {0, 1, 3, 4}) Due.is("28: cell " + i, x.chance(4, 0, i), want[i]);
        x.shape(5, 1, 2, 6);
        row(x, 5, 0, 2, 4);
        Due.is("28: twelve, divided by 6", x.wire(5, 3, 6), 2);
        x.corner(6, 16);
        Due.is("28: corner and corner", x.wire(6, 6, 7), 4);
    }

    private static void promise28InPlace() {
        FarPairs x = new FarPairs();
        x.corner(0, 16);
        x.sure(1, 2, 2, 6);
        x.wire(0, 1, 2);
        Due.is("28: r is t", x.wire(0, 1, 0), x.about(2, 2));
        Due.is("28: r is t", x.same(0, 2), 1);
        x.corner(0, 16);
        Due.is("28: r is s", x.wire(0, 1, 1), x.about(2, 2));
        Due.is("28: r is s", x.same(1, 2), 1);
        x.wire(0, 0, 3);
        x.wire(0, 0, 0);
        Due.is("28: all are one", x.same(0, 3), 1);
    }

    private static void promise28Refusals() {
        FarPairs x = new FarPairs();
        x.sure(0, 2, 2, 0);
        x.sure(1, 3, 3, 0);
        x.shape(2, 2, 2, 1);
        x.shape(4, 1, 2, 1009);
        row(x, 4, 0, 1, 1008);
        x.shape(5, 2, 2, 1013);
        for (int questions : new int[] {0, 1, 3, 4}) row(x, 5, questions, 1, 1012);
        // All rows alike would be divided: 1 * 1 + 1008 * 2 has no divisor in common with 1009 * 1013.
        row(x, 5, 1, 2, 1011);
        String before = Seen.of(x);
        for (int t : NO_TABLES) {
            Due.is("28: t", x.wire(t, 0, 0), Due.BAD);
            Due.is("28: s", x.wire(0, t, 0), Due.BAD);
            Due.is("28: r", x.wire(0, 0, t), Due.BAD);
            Due.is("28: BAD stands ahead of NO", x.wire(7, 7, t), Due.BAD);
        }
        Due.is("28: t is missing", x.wire(7, 0, 0), Due.NO);
        Due.is("28: s is missing", x.wire(0, 7, 0), Due.NO);
        Due.is("28: t is not proper", x.wire(2, 0, 0), Due.NO);
        Due.is("28: s is not proper", x.wire(0, 2, 0), Due.NO);
        Due.is("28: they do not fit", x.wire(0, 1, 3), Due.NO);
        Due.is("28: they do not fit", x.wire(1, 0, 3), Due.NO);
        Due.is("28: full", x.wire(4, 5, 3), Due.FULL);
        Due.holds("28: refused, so nothing changes", Seen.of(x).equals(before));
        Due.is("28: r may be missing", x.wire(0, 0, 7), 1);
        x.shape(4, 1, 2, 1000);
        row(x, 4, 0, 1, 999);
        x.shape(5, 2, 2, 1000);
        for (int questions : new int[] {0, 1, 3, 4}) row(x, 5, questions, 1, 999);
        // Both ways lead to 1 of 1000.
        Due.is("28: a million, divided", x.wire(4, 5, 3), 1000);
        row(x, 5, 1, 3, 997);
        Due.is("28: 1 * 1 + 999 * 3, of a million, by 2", x.wire(4, 5, 3), 500000);
        row(x, 5, 1, 4, 996);
        Due.is("28: 1 * 1 + 999 * 4, of a million", x.wire(4, 5, 3), 1000000);
        halves(x, 6, 1);
        halves(x, 7, 2);
        Due.is("28: a million millions, divided", x.wire(6, 7, 3), 2);
        Due.is("28: a million millions, divided", x.chance(3, 0, 4), 1);
    }

    private static void promise29() {
        FarPairs x = new FarPairs();
        x.shape(0, 1, 2, 6);
        row(x, 0, 0, 1, 5);
        x.shape(1, 1, 2, 4);
        row(x, 1, 0, 0, 1, 0, 3);
        // 2 * 1 / 6 and 3 * 1 / 4, by 5: of 120, 8 and 40 + 18 and 54, by 2.
        Due.is("29: its whole", x.blend(0, 1, 2, 1001 * 2 + 3), 60);
        Due.is("29: cell", x.chance(2, 0, 0), 4);
        Due.is("29: cell", x.chance(2, 0, 1), 20 + 9);
        Due.is("29: cell", x.chance(2, 0, 3), 27);
        Due.is("29: v alone", x.blend(0, 1, 3, 1001 * 1000), 6);
        Due.is("29: v alone", x.same(0, 3), 1);
        Due.is("29: w alone", x.blend(0, 1, 3, 1000), 4);
        Due.is("29: w alone", x.same(1, 3), 1);
        Due.is("29: the greatest", x.blend(0, 1, 3, 1001 * 1000 + 1000), 24);
        Due.is("29: r is t", x.blend(0, 1, 0, 1001 * 2 + 3), 60);
        Due.is("29: r is t", x.same(0, 2), 1);
        Due.is("29: r is s, itself", x.blend(0, 0, 0, 1001 + 1), 60);
        Due.is("29: r is s, itself", x.same(0, 2), 1);
    }

    private static void promise29Refusals() {
        FarPairs x = new FarPairs();
        x.sure(0, 2, 2, 0);
        x.sure(1, 2, 3, 0);
        x.sure(2, 3, 2, 0);
        x.shape(3, 2, 2, 1);
        x.shape(4, 1, 2, 1009);
        row(x, 4, 0, 1, 1008);
        x.shape(5, 1, 2, 1013);
        row(x, 5, 0, 1, 1012);
        String before = Seen.of(x);
        for (int t : NO_TABLES) {
            Due.is("29: t", x.blend(t, 0, 0, 1), Due.BAD);
            Due.is("29: s", x.blend(0, t, 0, 1), Due.BAD);
            Due.is("29: r", x.blend(0, 0, t, 1), Due.BAD);
        }
        for (int v : new int[] {0, -1, 1002001, Integer.MIN_VALUE, Integer.MAX_VALUE}) {
            Due.is("29: v and w", x.blend(0, 0, 0, v), Due.BAD);
            Due.is("29: BAD stands ahead of NO", x.blend(7, 7, 0, v), Due.BAD);
        }
        Due.is("29: t is missing", x.blend(7, 0, 0, 1), Due.NO);
        Due.is("29: s is missing", x.blend(0, 7, 0, 1), Due.NO);
        Due.is("29: t is not proper", x.blend(3, 0, 0, 1), Due.NO);
        Due.is("29: s is not proper", x.blend(0, 3, 0, 1), Due.NO);
        Due.is("29: shape", x.blend(0, 1, 0, 1), Due.NO);
        Due.is("29: shape", x.blend(2, 0, 0, 1), Due.NO);
        Due.is("29: full", x.blend(4, 5, 6, 1002), Due.FULL);
        Due.holds("29: refused, so nothing changes", Seen.of(x).equals(before));
        Due.is("29: not full with one alone", x.blend(4, 5, 6, 1), 1013);
        halves(x, 4, 1);
        x.shape(5, 1, 2, 1000000);
        row(x, 5, 0, 1, 999999);
        Due.is("29: great numbers, divided", x.blend(4, 4, 6, 1002000), 2);
        Due.is("29: great numbers, divided", x.blend(4, 5, 6, 1002000), Due.FULL);
        Due.is("29: great numbers, divided", x.blend(5, 5, 6, 1002000), 1000000);
        Due.is("29: great numbers, divided", x.chance(6, 0, 1), 999999);
    }

    private static void promise30() {
        FarPairs x = new FarPairs();
        x.shape(0, 1, 2, 4);
        row(x, 0, 0, 1, 2, 0, 0, 1);
        x.shape(1, 1, 2, 5);
        row(x, 1, 0, 2, 0, 0, 3);
        // 00 with 00 and 10 with 10: 2 + 0; 01 with 10 is 11, and so on.
        Due.is("30: its whole", x.parity(0, 1, 2), 20);
        Due.is("30: 00", x.chance(2, 0, 0), 2);
        Due.is("30: 01", x.chance(2, 0, 1), 4 + 3);
        Due.is("30: 10", x.chance(2, 0, 3), 3);
        Due.is("30: 11", x.chance(2, 0, 4), 2 + 6);
        x.corner(3, 16);
        x.corner(4, 23);
        Due.is("30: divided", x.parity(3, 4, 5), 2);
        // x y less x y + x + y + 1.
        for (int i = 0; i < 16; i++) {
            int p = i / 8, q = i / 4 % 2, a = i / 2 % 2, b = i % 2;
            Due.is("30: cell", x.chance(5, 3 * p + q, 3 * a + b), (a + b + p + q + 1) % 2 == 0 ? 1 : 0);
        }
        halves(x, 0, 1);
        Due.is("30: great numbers, divided", x.parity(0, 0, 1), 2);
        Due.is("30: great numbers, divided", x.chance(1, 0, 4), 1);
        x.sure(6, 3, 2, 5 * 8 + 3);
        x.sure(7, 3, 2, 6 * 8 + 1);
        Due.is("30: sure", x.parity(6, 7, 6), 1);
        Due.is("30: digits", x.number(6), 3 * 8 + 2);
        Due.is("30: r is s", x.parity(6, 7, 7), 1);
        Due.is("30: digits", x.number(7), 5 * 8 + 3);
    }

    private static void promise30Refusals() {
        FarPairs x = new FarPairs();
        x.sure(0, 2, 2, 0);
        x.sure(1, 2, 3, 0);
        x.sure(2, 3, 2, 0);
        x.shape(3, 2, 2, 1);
        x.shape(4, 1, 2, 1009);
        row(x, 4, 0, 1, 1008);
        x.shape(5, 1, 2, 1013);
        row(x, 5, 0, 1, 1012);
        String before = Seen.of(x);
        for (int t : NO_TABLES) {
            Due.is("30: t", x.parity(t, 0, 0), Due.BAD);
            Due.is("30: s", x.parity(0, t, 0), Due.BAD);
            Due.is("30: r", x.parity(0, 0, t), Due.BAD);
            Due.is("30: BAD stands ahead of NO", x.parity(7, 7, t), Due.BAD);
        }
        Due.is("30: t is missing", x.parity(7, 0, 0), Due.NO);
        Due.is("30: s is missing", x.parity(0, 7, 0), Due.NO);
        Due.is("30: t is not proper", x.parity(3, 0, 0), Due.NO);
        Due.is("30: s is not proper", x.parity(0, 3, 0), Due.NO);
        Due.is("30: three answers", x.parity(1, 1, 0), Due.NO);
        Due.is("30: three answers of one", x.parity(0, 1, 0), Due.NO);
        Due.is("30: three answers of one", x.parity(1, 0, 0), Due.NO);
        Due.is("30: questions", x.parity(0, 2, 0), Due.NO);
        Due.is("30: full", x.parity(4, 5, 6), Due.FULL);
        Due.holds("30: refused, so nothing changes", Seen.of(x).equals(before));
    }

    private static void promise31() {
        FarPairs x = new FarPairs();
        Due.is("31: none", x.undo(), Due.NO);
        x.shape(0, 1, 2, 100);
        for (int v = 1; v <= 9; v++) {
            x.cell(0, 0, 0, v);
            Due.is("31: at most 6", x.count(3), Math.min(6, v + 1));
        }
        x.begin(3, 3);
        x.weigh(0, 0, 8);
        x.share(700, 9);
        for (int v = 8; v >= 3; v--) {
            Due.is("31: still kept", x.undo(), v - 3);
            Due.is("31: as it was", x.chance(0, 0, 0), v);
        }
        Due.is("31: no more are kept", x.undo(), Due.NO);
        Due.is("31: nothing changes", x.chance(0, 0, 0), 3);
        Due.is("31: the law stays", x.weigh(0, 0, 8), 8);
        Due.is("31: shares stay", x.share(700, 9), 9);
        x.cell(0, 0, 0, 50);
        x.sure(1, 3, 3, 5);
        Due.is("31: two anew", x.undo(), 1);
        Due.is("31: the latest first", x.about(1, 0), Due.NO);
        Due.is("31: the other stays", x.chance(0, 0, 0), 50);
        Due.is("31: the other one", x.undo(), 0);
        Due.is("31: the other one", x.chance(0, 0, 0), 3);
    }

    /** Each kind of CHANGE is kept and taken back; calls that are none are not kept. */
    private static void promise31OfEach() {
        for (int change = 0; change < 11; change++) {
            FarPairs x = someChanges();
            String before = Seen.of(x);
            Due.holds("31: change " + change, changeOf(x, change) >= 0);
            Due.is("31: kept", x.count(3), 6);
            x.undo();
            x.cell(0, 4, 3, 2);
            Due.holds("31: as it was after change " + change, Seen.of(x).equals(before));
        }
        FarPairs x = someChanges();
        x.weigh(0, 0, 1);
        x.bound(0);
        x.isOf(0, 3);
        x.mixed(-1);
        x.cell(0, 0, 0, 4);
        x.undo();
        Due.is("31: only changes are kept", x.count(3), 5);
        Due.is("31: only changes are taken back", x.chance(0, 4, 3), 0);
    }

    private static FarPairs someChanges() {
        FarPairs x = new FarPairs();
        x.shape(0, 2, 2, 3);
        for (int questions : new int[] {0, 1, 3, 4}) row(x, 0, questions, 0, 1, 0, 2);
        x.share(5, 2);
        return x;
    }

    private static long changeOf(FarPairs x, int change) {
        switch (change) {
            case 0: return x.shape(0, 3, 3, 9);
            case 1: return x.lose(0);
            case 2: return x.cell(0, 0, 3, 2);
            case 3: return x.sure(0, 1, 2, 0);
            case 4: return x.corner(0, 20);
            case 5: return x.mixed(0);
            case 6: return x.wire(0, 0, 0);
            case 7: return x.blend(0, 0, 0, 1);
            case 8: return x.parity(0, 0, 0);
            case 9: return x.swap(0, 1, 0, 0);
            default: return x.turn(0, 0);
        }
    }

    private static void countIs(String what, FarPairs x, long... want) {
        for (int i = 0; i < 6; i++) Due.is(what + " " + i, x.count(i), want[i]);
    }

    private static void promise32() {
        FarPairs x = new FarPairs();
        countIs("32: new", x, 0, 0, 0, 0, 0, 16);
        x.corner(7, 3);
        x.corner(3, 3);
        x.lose(3);
        countIs("32: tables", x, 1, 0, 0, 3, 0, 16);
        for (int t = 0; t < 8; t++) x.shape(t, 1, 2, 1);
        countIs("32: all tables", x, 8, 0, 0, 6, 0, 16);
        x.begin(2, 3);
        for (int n = 0; n < 30; n++) x.share(n, 1000000);
        x.weigh(0, 0, -5);
        x.weigh(4, 8, 5);
        x.weigh(4, 7, 0);
        countIs("32: shares, weights", x, 8, 30, 30000000, 6, 2, 81);
        x.share(3, 0);
        x.share(4, 1);
        countIs("32: fewer shares", x, 8, 29, 28000001, 6, 2, 81);
        x.undo();
        countIs("32: undone", x, 8, 29, 28000001, 5, 2, 81);
        for (int what : new int[] {-1, 6, Integer.MIN_VALUE, Integer.MAX_VALUE})
            Due.is("32: what", x.count(what), Due.BAD);
    }
}
