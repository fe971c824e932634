import java.lang.reflect.Method;
import java.util.Arrays;
import java.util.HashMap;
import java.util.Map;
import java.util.Random;

/** Long runs of calls by a fixed seed: the class and the Oracle are to answer alike. */
public final class OracleTest {
    private static final int RUNS = 400;
    private static final int CALLS = 512;
    private static final Map<String, Method> CLASS = new HashMap<>();
    private static final Map<String, Method> ORACLE = new HashMap<>();
    private static final String[] MAKERS = {"shape", "cell", "cell", "sure", "corner", "corner", "swap", "turn", "wire",
        "blend", "blend", "parity", "mixed", "undo", "lose"};
    private static final String[] ASKERS = {"about", "chance", "same", "isOf", "isOf", "who", "number", "law", "broken",
        "near", "near", "value", "bound", "breaks", "best", "makes", "count"};
    private static final String[] OTHERS = {"weigh", "weigh", "weigh", "weigh", "take", "begin", "share", "share", "share"};

    private final Random random;
    private final FarPairs x = new FarPairs();
    private final Oracle oracle = new Oracle();
    private final StringBuilder trail = new StringBuilder();
    private final int q, a;
    private int calls = 0;
    private int dearCalls = 0;

    private OracleTest(int seed) {
        random = new Random(seed);
        q = 1 + random.nextInt(3);
        a = 2 + random.nextInt(2);
    }

    public static void main(String[] args) throws Exception {
        for (Method m : FarPairs.class.getDeclaredMethods()) CLASS.put(m.getName(), m);
        for (Method m : Oracle.class.getDeclaredMethods()) ORACLE.put(m.getName(), m);
        for (int seed = 0; seed < RUNS && Due.wrong() < 5; seed++) new OracleTest(seed).run();
        Due.end();
    }

    private void run() throws Exception {
        int wrongBefore = Due.wrong();
        while (calls < CALLS && Due.wrong() == wrongBefore) {
            int pick = random.nextInt(100);
            if (pick < 3) fillProper(random.nextInt(8));
            else if (pick < 5) fillSilentPair();
            else if (pick < 35) call(MAKERS[random.nextInt(MAKERS.length)]);
            else if (pick < 75) call(ASKERS[random.nextInt(ASKERS.length)]);
            else if (pick < 97) call(OTHERS[random.nextInt(OTHERS.length)]);
            else manyShares();
        }
        if (Due.wrong() != wrongBefore) System.out.println("the run: " + trail);
    }

    private void call(String name) throws Exception {
        int[] given = arguments(name);
        if (name.equals("best") && given[0] >= 2 && ++dearCalls > 8) return;
        tell(name, given);
    }

    private void tell(String name, int... given) throws Exception {
        if (calls++ >= CALLS) return;
        Object[] boxed = Arrays.stream(given).boxed().toArray();
        String text = name + Arrays.toString(given);
        long want = (Long) ORACLE.get(name).invoke(oracle, boxed);
        long got = (Long) CLASS.get(name).invoke(x, boxed);
        trail.append(text).append(" -> ").append(Due.named(got)).append("; ");
        Due.is(text, got, want);
    }

    private int below(int limit) {
        return random.nextInt(limit);
    }

    private int table() {
        return below(60) == 0 ? (below(2) == 0 ? -1 : 8) : below(8);
    }

    private int wrongOr(int right, int low, int high) {
        int pick = below(80);
        if (pick == 0) return low - 1;
        if (pick == 1) return high + 1;
        if (pick == 2) return below(2) == 0 ? Integer.MIN_VALUE : Integer.MAX_VALUE;
        return right;
    }

    private int row(int limit) {
        int right = 3 * below(limit) + below(limit);
        return wrongOr(below(20) == 0 ? below(9) : right, 0, 8);
    }

    private int questions() {
        return below(5) == 0 ? 1 + below(3) : q;
    }

    private int answers() {
        return below(5) == 0 ? 2 + below(2) : a;
    }

    private int[] arguments(String name) {
        switch (name) {
            case "shape": {
                int[] wholes = {1, 2, 5, 12, 1000, 999983, 1000000};
                return new int[] {table(), wrongOr(questions(), 1, 3), wrongOr(answers(), 2, 3),
                    wrongOr(wholes[below(wholes.length)], 1, 1000000)};
            }
            case "cell": {
                int t = table();
                int whole = t < 0 || t > 7 || oracle.about(t, 2) < 0 ? 3 : (int) oracle.about(t, 2);
                return new int[] {t, row(q), row(a), wrongOr(below(whole + 1), 0, whole)};
            }
            case "sure": {
                int wantQ = questions(), wantA = answers(), n = Oracle.sures(wantQ, wantA);
                return new int[] {table(), wrongOr(wantQ, 1, 3), wrongOr(wantA, 2, 3), wrongOr(below(n), 0, n - 1)};
            }
            case "corner": return new int[] {table(), wrongOr(below(24), 0, 23)};
            case "about": return new int[] {table(), wrongOr(below(4), 0, 3)};
            case "chance": return new int[] {table(), row(q), row(a)};
            case "swap": return new int[] {table(), wrongOr(3 * below(2) + below(q), 0, 5), wrongOr(below(a), 0, a - 1),
                wrongOr(below(a), 0, a - 1)};
            case "turn": return new int[] {table(), wrongOr(below(3), 0, 2)};
            case "same": return new int[] {table(), table()};
            case "isOf": return new int[] {table(), wrongOr(below(5), 0, 4)};
            case "law": return new int[] {table(), wrongOr(below(8), 0, 7)};
            case "near": return new int[] {table(), wrongOr(below(2), 0, 1), wrongOr(below(2), 0, 1)};
            case "begin": return new int[] {wrongOr(questions(), 1, 3), wrongOr(answers(), 2, 3)};
            case "weigh": return new int[] {row(q), row(a), wrongOr(weight(), -1000, 1000)};
            case "take": return new int[] {wrongOr(below(8), 0, 7)};
            case "value": return new int[] {table(), wrongOr(below(2), 0, 1)};
            case "bound": case "best": return new int[] {wrongOr(below(4), 0, 3)};
            case "share": {
                int n = (int) oracle.count(5);
                int[] amounts = {0, 0, 1, 2, 3, 6, 1000, 1000000};
                return new int[] {wrongOr(below(n), 0, n - 1), wrongOr(amounts[below(amounts.length)], 0, 1000000)};
            }
            case "wire": case "parity": return new int[] {table(), table(), table()};
            case "blend": {
                int high = below(3) == 0 ? 1001 : 4;
                return new int[] {table(), table(), table(), wrongOr(1001 * below(high) + below(high), 1, 1002000)};
            }
            case "undo": return new int[] {};
            case "count": return new int[] {wrongOr(below(6), 0, 5)};
            default: return new int[] {table()};
        }
    }

    private int weight() {
        int pick = below(4);
        return pick == 0 ? below(2001) - 1000 : pick == 1 ? below(101) : below(3);
    }

    /** A row of questions is filled so that its cells together are the whole. */
    private void fillProper(int t) throws Exception {
        int whole = new int[] {1, 2, 3, 10, 997}[below(5)];
        int wantQ = Math.min(2, q);
        tell("shape", t, wantQ, a, whole);
        boolean free = below(2) == 0;
        int[] firsts = {below(a), below(a)}, others = {below(a), below(a)};
        for (int x = 0; x < wantQ; x++)
            for (int y = 0; y < wantQ; y++) {
                int some = below(whole + 1);
                int one = free ? 3 * below(a) + below(a) : 3 * firsts[x] + others[y];
                int two = free ? 3 * below(a) + below(a) : one;
                tell("cell", t, 3 * x + y, one, one == two ? whole : some);
                if (one != two) tell("cell", t, 3 * x + y, two, whole - some);
            }
        tell("isOf", t, 1);
        tell("who", t);
        tell("number", t);
        tell("isOf", t, 3);
    }

    /** Blends of corners are silent, and some of them break a law. */
    private void fillSilentPair() throws Exception {
        tell("corner", 0, 16 + below(8));
        tell("corner", 1, below(24));
        tell("blend", 0, 1, 2, 1001 * below(20) + 1 + below(20));
        for (int what = 0; what < 2; what++) for (int part = 0; part < 2; part++) tell("near", 2, what, part);
        tell("broken", 2);
        tell("isOf", 2, 3);
        if (below(2) == 0) tell("turn", 2, below(3));
        if (below(2) == 0) tell("swap", 2, 3 * below(2) + below(2), 0, 1);
        tell("broken", 2);
        tell("take", below(8));
        tell("value", 2, 0);
        tell("breaks", 2);
    }

    private void manyShares() throws Exception {
        int n = (int) oracle.count(5);
        for (int i = 0; i < 33; i++) tell("share", below(n), 1 + below(4));
        tell("count", 1);
        tell("mixed", 3);
        tell("makes", 3);
        tell("cell", 3, 0, 0, 0);
        tell("makes", 3);
    }
}
