import java.io.IOException;
import java.lang.reflect.Method;
import java.nio.file.Files;
import java.nio.file.Path;
import java.util.HashMap;
import java.util.Map;
import java.util.Set;
import java.util.TreeSet;
import java.util.regex.Matcher;
import java.util.regex.Pattern;

/** README.md: its examples answer what it tells, and it tells of every call and every constant of the document. */
public final class ReadmeTest {
    private static final Path README = Path.of("README.md");
    private static final Path DOCUMENT = Path.of("../shared/DOC.md");
    private static final String MAKING = "FarPairs bench = new FarPairs();";
    private static final Pattern CALL = Pattern.compile("bench\\.(\\w+)\\(([^;]*)\\); +// (-?\\d+|BAD|NO|FULL|LARGE|NONE)(: .*)?");

    public static void main(String[] args) throws Exception {
        String text = Files.readString(README);
        examples(text);
        calls(text);
        constants(text);
        Due.end();
    }

    private static void examples(String text) throws Exception {
        Set<String> shown = new TreeSet<>();
        Matcher block = Pattern.compile("(?s)```java\n(.*?)```").matcher(text);
        int blocks = 0;
        while (block.find()) {
            blocks++;
            example("example " + blocks, block.group(1).split("\n"), shown);
        }
        Due.holds("there are examples", blocks > 0);
        for (Method m : FarPairs.class.getDeclaredMethods())
            if (m.toString().startsWith("public")) Due.holds("an example shows " + m.getName(), shown.contains(m.getName()));
    }

    private static void example(String name, String[] lines, Set<String> shown) throws Exception {
        Due.is(name + " makes an object first", lines[0].compareTo(MAKING), 0);
        FarPairs bench = new FarPairs();
        Due.holds(name + " asks less than 512 calls", lines.length <= 512);
        for (int i = 1; i < lines.length; i++) {
            Matcher call = CALL.matcher(lines[i]);
            Due.holds(name + " can be read: " + lines[i], call.matches());
            if (!call.matches()) continue;
            shown.add(call.group(1));
            Due.is(name + ": " + lines[i], answer(bench, call.group(1), call.group(2)), told(call.group(3)));
        }
    }

    private static long answer(FarPairs bench, String name, String arguments) throws Exception {
        String[] given = arguments.isEmpty() ? new String[0] : arguments.split(",");
        Class<?>[] types = new Class<?>[given.length];
        Object[] values = new Object[given.length];
        for (int i = 0; i < given.length; i++) {
            types[i] = int.class;
            values[i] = sumOf(given[i]);
        }
        return (Long) FarPairs.class.getMethod(name, types).invoke(bench, values);
    }

    /** A sum of products of numbers. */
    private static int sumOf(String text) {
        int sum = 0;
        for (String term : text.split("\\+")) {
            int product = 1;
            for (String factor : term.split("\\*")) product *= Integer.parseInt(factor.trim());
            sum += product;
        }
        return sum;
    }

    private static long told(String answer) {
        switch (answer) {
            case "BAD": return Due.BAD;
            case "NO": return Due.NO;
            case "FULL": return Due.FULL;
            case "LARGE": return Due.LARGE;
            case "NONE": return Due.NONE;
            default: return Long.parseLong(answer);
        }
    }

    /** The document's calls, with the names that it gives to what they take. */
    private static void calls(String text) throws IOException {
        Matcher call = Pattern.compile("public long (\\w+)\\(([^)]*)\\);").matcher(Files.readString(DOCUMENT));
        int found = 0;
        while (call.find()) {
            found++;
            String told = "| `" + call.group(1) + "(" + call.group(2).replace("int ", "") + ")` |";
            Due.holds("README.md tells " + told, text.contains("\n" + told));
        }
        Due.is("calls of the document", found, 31);
        Matcher rows = Pattern.compile("\n\\| `\\w+\\(").matcher(text);
        Due.is("calls that README.md tells", rows.results().count(), 31);
    }

    private static void constants(String text) {
        Map<String, Long> values = new HashMap<>();
        values.put("BAD", FarPairs.BAD);
        values.put("NO", FarPairs.NO);
        values.put("FULL", FarPairs.FULL);
        values.put("LARGE", FarPairs.LARGE);
        values.put("NONE", FarPairs.NONE);
        values.forEach((name, value) -> Due.holds("README.md tells " + name, text.contains("\n| `" + name + "` | " + value + " |")));
    }
}
