/** All that can be seen of an object without changing it: a refused call leaves this as it was. */
final class Seen {
    private Seen() {
    }

    static String of(FarPairs x) {
        StringBuilder seen = new StringBuilder();
        for (int what = 0; what < 6; what++) {
            add(seen, x.count(what));
        }
        for (int t = 0; t < 8; t++) {
            addTable(seen, x, t);
        }
        for (int what = 0; what < 4; what++) {
            add(seen, x.bound(what));
            add(seen, x.best(what));
        }
        return seen.toString();
    }

    private static void addTable(StringBuilder seen, FarPairs x, int t) {
        for (int what = 0; what < 4; what++) {
            add(seen, x.about(t, what));
        }
        for (int questions = 0; questions < 9; questions++) {
            for (int answers = 0; answers < 9; answers++) {
                add(seen, x.chance(t, questions, answers));
            }
        }
        add(seen, x.value(t, 0));
        add(seen, x.value(t, 1));
        add(seen, x.makes(t));
    }

    private static void add(StringBuilder seen, long answer) {
        seen.append(answer).append(' ');
    }
}
