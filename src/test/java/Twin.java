import java.util.ArrayList;
import java.util.IdentityHashMap;
import java.util.List;
import java.util.Map;
import java.util.function.Consumer;
import java.util.function.ToLongFunction;

/**
 * Two objects made alike, one of which then gets a call more: whether anything tells them apart. What can be seen is
 * looked at in slices, each on a new object, so that none is asked more than the 512 calls that are promised; that
 * holds for makers of up to 300 calls.
 */
final class Twin {
    private static final int TABLES = 8;
    private static final int SHARES_A_SLICE = 200;
    private static final Map<Consumer<FarPairs>, List<String>> WITHOUT = new IdentityHashMap<>();

    private final Consumer<FarPairs> made;
    private final ToLongFunction<FarPairs> call;
    private final List<String> slices = new ArrayList<>();

    private Twin(Consumer<FarPairs> made, ToLongFunction<FarPairs> call) {
        this.made = made;
        this.call = call;
        long kept = anew().count(3);
        seeLaw();
        seeShares(anew().count(5));
        // One more undo than there are changes: it is to be refused on both.
        for (int undone = 0; undone <= kept + 1; undone++)
            for (int t = 0; t < TABLES; t += 2) seeTables(undone, t);
    }

    static boolean sameWith(Consumer<FarPairs> made, ToLongFunction<FarPairs> call) {
        List<String> without = WITHOUT.computeIfAbsent(made, m -> new Twin(m, x -> 0).slices);
        return new Twin(made, call).slices.equals(without);
    }

    private FarPairs anew() {
        FarPairs x = new FarPairs();
        made.accept(x);
        call.applyAsLong(x);
        return x;
    }

    private void seeLaw() {
        FarPairs x = anew();
        StringBuilder seen = new StringBuilder("law:");
        for (int what = 0; what < 6; what++) add(seen, x.count(what));
        for (int what = 0; what < 4; what++) {
            add(seen, x.bound(what));
            add(seen, x.best(what));
        }
        for (int t = 0; t < TABLES; t++) {
            add(seen, x.value(t, 0));
            add(seen, x.value(t, 1));
            add(seen, x.makes(t));
        }
        for (int i = 0; i < 81; i++) add(seen, x.weigh(i / 9, i % 9, 0));
        slices.add(seen.toString());
    }

    private void seeShares(long sures) {
        for (int from = 0; from < sures; from += SHARES_A_SLICE) {
            FarPairs x = anew();
            StringBuilder seen = new StringBuilder("shares from " + from + ":");
            for (int n = from; n < from + SHARES_A_SLICE; n++) add(seen, x.share(n, 0));
            slices.add(seen.toString());
        }
    }

    private void seeTables(int undone, int t) {
        FarPairs x = anew();
        StringBuilder seen = new StringBuilder("tables from " + t + ", undone " + undone + ":");
        for (int i = 0; i < undone; i++) add(seen, x.undo());
        add(seen, x.count(3));
        for (int each = t; each < t + 2; each++) {
            for (int what = 0; what < 4; what++) add(seen, x.about(each, what));
            for (int i = 0; i < 81; i++) add(seen, x.chance(each, i / 9, i % 9));
        }
        slices.add(seen.toString());
    }

    private static void add(StringBuilder seen, long answer) {
        seen.append(' ').append(Due.named(answer));
    }
}
