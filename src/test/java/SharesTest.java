/** Promises 25 to 27. */
public final class SharesTest {
    private static final int[] NO_TABLES = {-1, 8, Integer.MIN_VALUE, Integer.MAX_VALUE};

    public static void main(String[] args) {
        promise25();
        promise25Full();
        promise26();
        promise26Full();
        promise27();
        Due.end();
    }

    private static void promise25() {
        FarPairs x = new FarPairs();
        Due.is("25: what it was", x.share(15, 1000000), 0);
        Due.is("25: what it was", x.share(15, 3), 1000000);
        Due.is("25: another", x.share(0, 4), 0);
        Due.is("25: a third", x.share(7, 5), 0);
        Due.is("25: none again", x.share(0, 0), 4);
        Due.is("25: none", x.share(0, 0), 0);
        Due.is("25: those that stay", x.share(15, 3), 3);
        Due.is("25: those that stay", x.share(7, 5), 5);
        Due.is("25: how many", x.count(1), 2);
        Due.is("25: no change", x.count(3), 0);
        String before = Seen.of(x);
        for (int n : new int[] {-1, 16}) Due.is("25: n", x.share(n, 1), Due.BAD);
        for (int v : new int[] {-1, 1000001}) Due.is("25: v", x.share(0, v), Due.BAD);
        Due.holds("25: refused, so nothing changes", Seen.of(x).equals(before));
        int[][] shapes = {{1, 2, 4}, {1, 3, 9}, {2, 3, 81}, {3, 2, 64}, {3, 3, 729}};
        for (int[] s : shapes) {
            x.begin(s[0], s[1]);
            Due.is("25: n", x.share(s[2], 1), Due.BAD);
            Due.is("25: greatest n", x.share(s[2] - 1, 1), 0);
        }
    }

    private static void promise25Full() {
        FarPairs x = new FarPairs();
        x.begin(3, 3);
        for (int n = 0; n < 30; n++) Due.is("25: thirty", x.share(7 * n, n + 1), 0);
        String before = Seen.of(x);
        Due.is("25: full", x.share(1, 1), Due.FULL);
        Due.is("25: BAD stands ahead of FULL", x.share(1, 1000001), Due.BAD);
        Due.is("25: 0 is no share", x.share(1, 0), 0);
        Due.holds("25: refused, so nothing changes", Seen.of(x).equals(before));
        Due.is("25: one of the thirty", x.share(14, 50), 3);
        Due.is("25: the first of the thirty", x.share(0, 5), 1);
        Due.is("25: still thirty", x.count(1), 30);
        Due.is("25: none of one", x.share(14, 0), 50);
        Due.is("25: room for one", x.share(1, 1), 0);
        Due.is("25: full again", x.share(14, 1), Due.FULL);
        Due.is("25: those that stay", x.share(7 * 29, 30), 30);
    }

    private static void promise26() {
        FarPairs x = new FarPairs();
        Due.is("26: no shares", x.mixed(0), Due.NO);
        for (int t : NO_TABLES) Due.is("26: BAD stands ahead of NO", x.mixed(t), Due.BAD);
        x.share(0, 2);
        x.share(15, 4);
        Due.is("26: divided by 2", x.mixed(0), 3);
        for (int row : new int[] {0, 1, 3, 4}) {
            Due.is("26: both 0", x.chance(0, row, 0), 1);
            Due.is("26: both 1", x.chance(0, row, 4), 2);
        }
        Due.is("26: no other", x.about(0, 3), 8);
        Due.is("26: shares stay", x.count(2), 6);
        Due.is("26: a change", x.count(3), 1);
        x.share(1, 6);
        // Number 1: the first one answers 0, the other one 1 to question 0 alone.
        Due.is("26: three", x.mixed(0), 6);
        Due.is("26: joined where both have it", x.chance(0, 1, 0), 4);
        Due.is("26: apart where not", x.chance(0, 0, 0), 1);
        Due.is("26: apart where not", x.chance(0, 0, 1), 3);
        x.begin(3, 3);
        x.share(728, 1000000);
        Due.is("26: the law's shape", x.mixed(0), 1);
        Due.is("26: the law's shape", x.number(0), 728);
        Due.is("26: a new shape", x.about(0, 0), 3);
        Due.is("26: kept", x.undo(), 2);
        Due.is("26: as it was", x.about(0, 0), 2);
        x.share(728, 0);
        Due.is("26: no shares again", x.mixed(0), Due.NO);
    }

    private static void promise26Full() {
        FarPairs x = new FarPairs();
        x.share(0, 1000000);
        x.share(1, 1);
        String before = Seen.of(x);
        Due.is("26: whole 1000001", x.mixed(0), Due.FULL);
        Due.holds("26: refused, so nothing changes", Seen.of(x).equals(before));
        x.share(0, 999999);
        Due.is("26: whole 1000000", x.mixed(0), 1000000);
        x.share(0, 1000000);
        x.share(1, 1000000);
        x.share(2, 1000000);
        Due.is("26: divided", x.mixed(0), 3);
        x.share(3, 2);
        Due.is("26: half of 3000002", x.mixed(0), Due.FULL);
    }

    private static void promise27() {
        FarPairs x = new FarPairs();
        x.corner(0, 0);
        Due.is("27: no shares", x.makes(0), Due.NO);
        x.share(0, 5);
        Due.is("27: they make it", x.makes(0), 0);
        x.corner(0, 16);
        Due.is("27: the first cell", x.makes(0), 1);
        x.corner(0, 1);
        Due.is("27: question row 0, answers 0", x.makes(0), 1);
        x.corner(0, 2);
        // The other one answers 1 to question 1.
        Due.is("27: question row 1", x.makes(0), 1 + 9);
        x.corner(0, 8);
        Due.is("27: question row 3", x.makes(0), 1 + 27);
        x.corner(0, 0);
        x.cell(0, 4, 4, 1);
        Due.is("27: the last cell", x.makes(0), 1 + 36 + 4);
        x.shape(1, 2, 2, 7);
        for (int row : new int[] {0, 1, 3, 4}) x.cell(1, row, 0, 7);
        Due.is("27: another whole", x.makes(1), 0);
        for (int n = 0; n < 16; n++) x.share(n, 1000000);
        x.share(15, 999999);
        Due.is("27: a whole that is too great for a table", x.makes(0), 1);
        for (int t : NO_TABLES) Due.is("27: table", x.makes(t), Due.BAD);
        Due.is("27: missing", x.makes(7), Due.NO);
        int[][] shapes = {{1, 2}, {2, 3}, {3, 2}};
        for (int[] s : shapes) {
            x.sure(2, s[0], s[1], 0);
            Due.is("27: shape", x.makes(2), Due.NO);
        }
        x.begin(3, 3);
        x.share(728, 1);
        x.sure(2, 3, 3, 727);
        // The other one answers 1, not 2, to question 0: row of answers 7 has the share, 8 the table.
        Due.is("27: of three", x.makes(2), 1 + 7);
    }
}
