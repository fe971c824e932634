import java.lang.reflect.InvocationTargetException;
import java.lang.reflect.Method;
import java.util.Map;
import java.util.TreeMap;
import java.util.function.Consumer;
import java.util.function.ToLongFunction;

/** Runs the tests of edges, each a method that is named by its promise, and asks what such tests have in common. */
final class Edges {
    static final int[] NO_TABLES = {-1, 8, Integer.MIN_VALUE, Integer.MAX_VALUE};

    /** A call whose one argument is at an edge. */
    interface Call {
        long of(FarPairs x, int at);
    }

    private Edges() {
    }

    /** Every method promise<number><What it tests> of a class; each of the promises must have one. */
    static void run(Class<?> tests, String kind, int from, int to) throws Exception {
        Map<String, Method> found = new TreeMap<>();
        for (Method m : tests.getDeclaredMethods()) if (m.getName().matches("(promise|terms)\\d+[A-Z].*")) found.put(m.getName(), m);
        for (int n = from; n <= to; n++) {
            String begin = kind + n + "[A-Z].*";
            Due.holds(kind + " " + n + " has a test", found.keySet().stream().anyMatch(name -> name.matches(begin)));
        }
        for (Method m : found.values()) runOne(m);
    }

    private static void runOne(Method m) throws Exception {
        int before = Due.asked();
        Due.within(m.getName());
        try {
            m.invoke(null);
        } catch (InvocationTargetException e) {
            Due.holds("throws " + e.getCause(), false);
        }
        Due.holds("asks something", Due.asked() > before);
        Due.within("");
    }

    /** The answer that is due, and all that can be seen afterwards is as it is without the call. */
    static void refused(String what, Consumer<FarPairs> made, ToLongFunction<FarPairs> call, long want) {
        FarPairs x = new FarPairs();
        made.accept(x);
        Due.is(what, call.applyAsLong(x), want);
        Due.holds(what + ": changes nothing", Twin.sameWith(made, call));
    }

    static void refusedEach(String what, Consumer<FarPairs> made, Call call, long want, int... at) {
        for (int each : at) refused(what + " " + each, made, x -> call.of(x, each), want);
    }

    /** Each on an object of its own, so that no answer hangs on an earlier call. */
    static void takenEach(String what, Consumer<FarPairs> made, Call call, long want, int... at) {
        for (int each : at) {
            FarPairs x = new FarPairs();
            made.accept(x);
            Due.is(what + " " + each, call.of(x, each), want);
        }
    }

    /** TABLES are 0 .. 7: the first and the last are taken, those beside them are not. */
    static void tables(Consumer<FarPairs> made, Call call, long want) {
        takenEach("table", made, call, want, 0, 7);
        refusedEach("table", made, call, Due.BAD, NO_TABLES);
    }

    static void row(FarPairs x, int t, int questions, int... cells) {
        for (int i = 0; i < cells.length; i++) if (cells[i] != 0) x.cell(t, questions, i, cells[i]);
    }

    /** Tables 0 and 7 are alike, so that an edge of the table's number shows alone. */
    static Consumer<FarPairs> both(Call maker) {
        return x -> {
            maker.of(x, 0);
            maker.of(x, 7);
        };
    }

    /** Nothing at all: all TABLES are MISSING. */
    static void empty(FarPairs x) {
    }

    /** A table of each kind, a law, shares, and more changes than are kept. */
    static void some(FarPairs x) {
        x.corner(0, 16);
        x.shape(1, 1, 2, 4);
        row(x, 1, 0, 3, 0, 0, 0, 1);
        x.sure(2, 3, 3, 500);
        // Table 3 is not PROPER, table 6 is PROPER and not SILENT; tables 5 and 7 are MISSING.
        x.shape(3, 2, 2, 9);
        x.cell(3, 4, 4, 8);
        x.sure(4, 2, 3, 80);
        x.corner(6, 0);
        x.cell(6, 4, 0, 0);
        x.cell(6, 4, 3, 1);
        x.weigh(0, 0, -7);
        x.weigh(4, 4, 50);
        x.weigh(3, 1, 1000);
        x.share(0, 3);
        x.share(15, 1000000);
        x.sure(5, 1, 3, 8);
        x.lose(5);
    }
}
