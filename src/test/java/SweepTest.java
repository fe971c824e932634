import java.lang.reflect.Method;
import java.util.Arrays;
import java.util.HashMap;
import java.util.Map;

/** Every call with all its arguments at and beside their edges, in all ways, against the Oracle, on several benches. */
public final class SweepTest {
    private static final int CALLS = 300;
    private static final int LEAST = Integer.MIN_VALUE;
    private static final int GREATEST = Integer.MAX_VALUE;
    private static final int[] TABLES = {LEAST, -1, 0, 1, 2, 3, 4, 5, 6, 7, 8, GREATEST};
    private static final int[] QUESTIONS = {LEAST, -1, 0, 1, 2, 3, 4, GREATEST};
    private static final int[] ANSWERS = {LEAST, -1, 0, 1, 2, 3, 4, GREATEST};
    private static final int[] WHOLES = {LEAST, -1, 0, 1, 2, 999999, 1000000, 1000001, GREATEST};
    private static final int[] ROWS = {LEAST, -3, -1, 0, 1, 2, 3, 4, 5, 6, 7, 8, 9, 10, GREATEST};
    private static final int[] CELLS = {LEAST, -1, 0, 1, 2, 3, 999999, 1000000, 1000001, GREATEST};
    private static final int[] NUMBERS = {LEAST, -1, 0, 1, 3, 4, 8, 9, 15, 16, 63, 64, 80, 81, 728, 729, GREATEST};
    private static final int[] CORNERS = {LEAST, -1, 0, 1, 7, 8, 14, 15, 16, 17, 22, 23, 24, GREATEST};
    private static final int[] SMALL = {LEAST, -1, 0, 1, 2, 3, 4, 5, 6, 7, 8, GREATEST};
    private static final int[] WEIGHTS = {LEAST, -1001, -1000, -1, 0, 1, 100, 101, 1000, 1001, GREATEST};
    private static final int[] SHARES = {LEAST, -1, 0, 1, 999999, 1000000, 1000001, GREATEST};
    private static final int[] BLENDS = {LEAST, -1, 0, 1, 1000, 1001, 1002, 2001, 1001000, 1002000, 1002001, GREATEST};

    private static final String[] BENCHES = {
        "",
        "corner 0 16; shape 1 1 2 4; cell 1 0 0 3; cell 1 0 4 1; sure 2 3 3 500; shape 3 2 2 9; cell 3 4 4 8; sure 4 2 3 80;"
            + "corner 6 0; cell 6 4 0 0; cell 6 4 3 1; weigh 0 0 -7; weigh 4 4 50; share 0 3; share 15 1000000; lose 4; undo",
        "shape 0 1 2 1000000; cell 0 0 0 1; cell 0 0 1 999999; shape 1 1 2 999999; cell 1 0 0 1; cell 1 0 3 999998;"
            + "shape 2 1 2 1000; cell 2 0 0 1; cell 2 0 4 999; sure 3 2 2 6; corner 4 21; sure 5 1 3 4; sure 6 3 2 44;"
            + "begin 1 2; weigh 0 0 1000; weigh 0 4 -1000; share 0 999999; share 3 1",
        "begin 3 3; weigh 8 8 1000; weigh 4 0 -3; share 0 1000000; share 728 1; sure 0 3 3 728; sure 1 3 3 0; blend 0 1 2 1002;"
            + "sure 3 1 3 7; sure 5 3 2 63; shape 6 3 3 5; sure 7 2 3 1",
        "take 6; corner 0 16; corner 1 9; blend 0 1 2 1002; blend 0 1 3 3005; corner 4 23; turn 4 1; swap 4 3 0 1; share 5 2;"
            + "share 6 4; mixed 5; parity 0 4 6; wire 0 4 7"};

    private static final Map<String, int[][]> EDGES = new HashMap<>();
    private static final Map<String, Method> CLASS = new HashMap<>();
    private static final Map<String, Method> ORACLE = new HashMap<>();

    private final String bench;
    private FarPairs x;
    private Oracle oracle;
    private int calls;

    private SweepTest(String bench) {
        this.bench = bench;
    }

    public static void main(String[] args) throws Exception {
        tellEdges();
        for (Method m : Oracle.class.getDeclaredMethods()) ORACLE.put(m.getName(), m);
        for (Method m : FarPairs.class.getDeclaredMethods()) if (EDGES.containsKey(m.getName())) CLASS.put(m.getName(), m);
        Due.is("all calls of the face", CLASS.size(), 31);
        for (String bench : BENCHES) {
            Due.within("on the bench [" + bench + "]");
            SweepTest sweep = new SweepTest(bench);
            for (String name : EDGES.keySet()) sweep.all(name, new int[EDGES.get(name).length], 0);
        }
        Due.end();
    }

    private static void edges(String name, int[]... each) {
        EDGES.put(name, each);
    }

    private static void tellEdges() {
        edges("shape", TABLES, QUESTIONS, ANSWERS, WHOLES);
        edges("cell", TABLES, ROWS, ROWS, CELLS);
        edges("sure", TABLES, QUESTIONS, ANSWERS, NUMBERS);
        edges("corner", TABLES, CORNERS);
        edges("chance", TABLES, ROWS, ROWS);
        edges("swap", TABLES, SMALL, ANSWERS, ANSWERS);
        edges("same", TABLES, TABLES);
        for (String name : new String[] {"about", "turn", "isOf", "value"}) edges(name, TABLES, SMALL);
        edges("law", TABLES, CORNERS);
        edges("near", TABLES, SMALL, SMALL);
        edges("begin", QUESTIONS, ANSWERS);
        edges("weigh", ROWS, ROWS, WEIGHTS);
        edges("take", CORNERS);
        for (String name : new String[] {"bound", "best", "count"}) edges(name, SMALL);
        edges("share", NUMBERS, SHARES);
        for (String name : new String[] {"lose", "who", "number", "broken", "breaks", "mixed", "makes"}) edges(name, TABLES);
        edges("wire", TABLES, TABLES, TABLES);
        edges("parity", TABLES, TABLES, TABLES);
        edges("blend", TABLES, TABLES, TABLES, BLENDS);
        edges("undo");
    }

    private void all(String name, int[] given, int next) throws Exception {
        int[][] edges = EDGES.get(name);
        if (next < edges.length) {
            for (int each : edges[next]) {
                given[next] = each;
                all(name, given, next + 1);
            }
            return;
        }
        long kept = onBench().count(3);
        long answer = tell(name, given);
        // A change is taken back, so that the next call finds the bench as it was made.
        if (oracle.count(3) > kept || kept == 6 && isChange(name) && answer >= 0) tell("undo");
        if (name.equals("begin") || name.equals("take") || name.equals("undo")) x = null;
    }

    private static boolean isChange(String name) {
        return Arrays.asList("shape", "lose", "cell", "sure", "corner", "mixed", "wire", "blend", "parity", "swap", "turn")
            .contains(name);
    }

    private Oracle onBench() throws Exception {
        // With six kept a change pushes one out, so the bench is laid anew often enough that undo still finds some.
        if (x != null && calls < CALLS && oracle.count(3) > 1 && !bench.isEmpty()) return oracle;
        x = new FarPairs();
        oracle = new Oracle();
        calls = 0;
        for (String step : bench.split(";")) {
            String[] words = step.trim().split(" ");
            if (words[0].isEmpty()) continue;
            tell(words[0], Arrays.stream(words).skip(1).mapToInt(Integer::parseInt).toArray());
        }
        return oracle;
    }

    private long tell(String name, int... given) throws Exception {
        calls++;
        Object[] boxed = Arrays.stream(given).boxed().toArray();
        long want = (Long) ORACLE.get(name).invoke(oracle, boxed);
        long got = (Long) CLASS.get(name).invoke(x, boxed);
        Due.is(name + Arrays.toString(given), got, want);
        return got;
    }
}
