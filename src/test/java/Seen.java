/** All that can be seen of an object without changing it: a refused call leaves this as it was. */
final class Seen {
    private Seen() {
    }

    static String of(FarPairs x) {
        StringBuilder seen = new StringBuilder();
        for (int what = 0; what < 6; what++) {
            add(seen, x.count(what));
        }
        for (int t = 0; t < 8; t++) {
            addTable(seen, x, t);
        }
        for (int what = 0; what < 4; what++) {
            add(seen, x.bound(what));
            add(seen, x.best(what));
        }
        return seen.toString();
    }

    /** Only what there is to ask: an object that is looked at twice stays under its 512 calls. */
    private static void addTable(StringBuilder seen, FarPairs x, int t) {
        long q = x.about(t, 0);
        long a = x.about(t, 1);
        add(seen, q);
        add(seen, a);
        if (q == Due.NO) {
            return;
        }
        add(seen, x.about(t, 2));
        for (int questions = 0; questions < 9; questions++) {
            for (int answers = 0; answers < 9; answers++) {
                if (questions / 3 < q && questions % 3 < q && answers / 3 < a && answers % 3 < a) {
                    add(seen, x.chance(t, questions, answers));
                }
            }
        }
        add(seen, x.value(t, 0));
        add(seen, x.value(t, 1));
        add(seen, x.makes(t));
    }

    private static void add(StringBuilder seen, long answer) {
        seen.append(answer).append(' ');
    }
}
