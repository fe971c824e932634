import java.io.IOException;
import java.lang.reflect.Field;
import java.lang.reflect.Member;
import java.lang.reflect.Method;
import java.lang.reflect.Modifier;
import java.nio.file.Files;
import java.nio.file.Path;
import java.util.ArrayList;
import java.util.Arrays;
import java.util.List;
import java.util.Set;
import java.util.TreeSet;
import java.util.regex.Matcher;
import java.util.regex.Pattern;

/** The public face, and what of LANGUAGE.md can be read off the class and its text. */
public final class FaceTest {
    private static final String SOURCE = "src/main/java/FarPairs.java";
    private static final String DOCUMENT = "../shared/DOC.md";
    private static final String[] METHODS = {"shape 4", "lose 1", "cell 4", "sure 4", "corner 2", "about 2", "chance 3",
        "swap 4", "turn 2", "same 2", "isOf 2", "who 1", "number 1", "law 2", "broken 1", "near 3", "begin 2", "weigh 3",
        "take 1", "value 2", "bound 1", "breaks 1", "best 1", "share 2", "mixed 1", "makes 1", "wire 3", "blend 4",
        "parity 3", "undo 0", "count 1"};

    public static void main(String[] args) throws IOException {
        constants();
        methods();
        asTheDocumentWritesIt();
        otherMembers();
        nestedClasses();
        words();
        methodBodies();
        Due.end();
    }

    private static void constants() {
        Due.is("BAD", FarPairs.BAD, -9000000000000000001L);
        Due.is("NO", FarPairs.NO, -9000000000000000002L);
        Due.is("FULL", FarPairs.FULL, -9000000000000000003L);
        Due.is("LARGE", FarPairs.LARGE, -9000000000000000004L);
        Due.is("NONE", FarPairs.NONE, -9000000000000000005L);
        Set<String> open = new TreeSet<>();
        for (Field f : FarPairs.class.getDeclaredFields()) if (!Modifier.isPrivate(f.getModifiers())) open.add(f.getName());
        Due.holds("the open fields are the constants: " + open, open.equals(Set.of("BAD", "NO", "FULL", "LARGE", "NONE")));
        for (Field f : FarPairs.class.getFields()) {
            Due.is("public, static, final: " + f, f.getModifiers(), Modifier.PUBLIC | Modifier.STATIC | Modifier.FINAL);
            Due.holds("long: " + f, f.getType() == long.class);
        }
    }

    /** Every line of the document's face stands in the class, with the names of its parameters. */
    private static void asTheDocumentWritesIt() throws IOException {
        String document = Files.readString(Path.of(DOCUMENT));
        Matcher face = Pattern.compile("(?s)## The public face\\s+```java\n(.*?)\n\\}\n```").matcher(document);
        Due.holds("the document has a face", face.find());
        String source = Files.readString(Path.of(SOURCE));
        int found = 0;
        for (String line : face.group(1).split("\n")) {
            String due = line.endsWith(");") ? line.substring(0, line.length() - 1) + " {" : line;
            Due.holds("stands in the class: " + due, source.contains("\n" + due + "\n"));
            found++;
        }
        Due.is("the class, its constants, its constructor and its methods", found, 3 + METHODS.length);
    }

    private static void methods() {
        Set<String> open = new TreeSet<>();
        for (Method m : FarPairs.class.getDeclaredMethods()) {
            if (Modifier.isPrivate(m.getModifiers())) continue;
            open.add(m.getName() + " " + m.getParameterCount());
            Due.holds("public, no static: " + m, m.getModifiers() == Modifier.PUBLIC);
            Due.holds("answers long: " + m, m.getReturnType() == long.class);
            for (Class<?> p : m.getParameterTypes()) Due.holds("takes int: " + m, p == int.class);
        }
        Due.holds("the open methods are the document's: " + open, open.equals(new TreeSet<>(Arrays.asList(METHODS))));
        Due.is("one constructor", FarPairs.class.getConstructors().length, 1);
        Due.is("without parameters", FarPairs.class.getConstructors()[0].getParameterCount(), 0);
        Due.holds("final", Modifier.isFinal(FarPairs.class.getModifiers()));
    }

    private static void otherMembers() {
        Set<String> faces = new TreeSet<>();
        for (String m : METHODS) faces.add(m.split(" ")[0]);
        List<Class<?>> all = new ArrayList<>(Arrays.asList(FarPairs.class.getDeclaredClasses()));
        all.add(FarPairs.class);
        for (Class<?> c : all) {
            for (Method m : c.getDeclaredMethods()) {
                boolean face = c == FarPairs.class && Modifier.isPublic(m.getModifiers());
                Due.holds("a name of the face: " + m, face || !faces.contains(m.getName()));
                Due.holds("at most seven parameters: " + m, m.getParameterCount() <= 7);
            }
            int fields = 0;
            for (Field f : c.getDeclaredFields()) {
                if (isStatic(f)) Due.holds("a static that is not final: " + f, Modifier.isFinal(f.getModifiers()));
                else fields++;
            }
            Due.holds("at most some twenty fields: " + c, fields <= 20);
        }
    }

    private static boolean isStatic(Member m) {
        return Modifier.isStatic(m.getModifiers());
    }

    private static void nestedClasses() {
        Class<?>[] nested = FarPairs.class.getDeclaredClasses();
        Due.holds("at most some twelve classes", nested.length < 12);
        for (Class<?> c : nested) {
            Due.holds("static: " + c, Modifier.isStatic(c.getModifiers()));
            Due.holds("private or package-visible: " + c, !Modifier.isPublic(c.getModifiers()) && !Modifier.isProtected(c.getModifiers()));
        }
    }

    private static String code() throws IOException {
        String text = Files.readString(Path.of(SOURCE));
        return text.replaceAll("(?s)/\\*.*?\\*/", "").replaceAll("//[^\n]*", "");
    }

    private static void words() throws IOException {
        String code = code();
        String[] none = {"throw", "throws", "try", "catch", "finally", "synchronized", "assert", "package", "native",
            "volatile", "transient", "float", "double", "Exact", "System\\.(?!arraycopy)", "hashCode", "toString", "equals",
            "->", "::", "while", "Object", "Thread", "Random", "var"};
        for (String word : none) {
            String sought = Character.isLetter(word.charAt(0)) ? "\\b" + word + "\\b" : word;
            if (word.endsWith(")")) sought = word;
            Due.holds("no " + word, !Pattern.compile(sought).matcher(code).find());
        }
        Matcher imports = Pattern.compile("import ([^;]*);").matcher(code);
        while (imports.find()) Due.holds("import " + imports.group(1), imports.group(1).equals("java.util.Arrays"));
    }

    /** Methods are short, and make no objects: all that is needed is made with the object itself. */
    private static void methodBodies() throws IOException {
        int start = 0;
        int line = 0;
        int found = 0;
        boolean constructor = false;
        for (String text : Files.readString(Path.of(SOURCE)).split("\n")) {
            line++;
            if (text.matches(" {4}( {4})?[\\w\\[\\]. ]+\\([^;=]*\\) \\{") && start == 0) {
                start = line;
                found++;
                constructor = text.matches(" *(public )?[A-Z]\\w*\\(.*");
            }
            if (start > 0 && !constructor) Due.holds("line " + line + " makes nothing", !text.contains("new "));
            if (text.matches(" {4}( {4})?\\}") && start > 0 && indent(text) == indentOf(start)) {
                Due.holds("lines " + start + " to " + line + " are a short method", line - start < 60);
                start = 0;
            }
        }
        Due.holds("methods are found: " + found, found > 90);
    }

    private static int indent(String text) {
        return text.length() - text.stripLeading().length();
    }

    private static int indentOf(int line) throws IOException {
        return indent(Files.readAllLines(Path.of(SOURCE)).get(line - 1));
    }
}
