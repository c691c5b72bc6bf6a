import java.lang.reflect.Field;
import java.lang.reflect.Method;
import java.lang.reflect.Modifier;
import java.nio.file.Files;
import java.nio.file.Path;
import java.util.ArrayList;
import java.util.Arrays;
import java.util.List;
import java.util.Set;
import java.util.regex.Matcher;
import java.util.regex.Pattern;

/** What of LANGUAGE.md a look at the source's lines and at the compiled class can show. Its argument is the source's path. */
public final class LanguageTest {
    private static final Check check = new Check();
    private static final List<String> FORBIDDEN = List.of(
        "package", "synchronized", "assert", "finally", "try", "catch", "protected", "volatile", "transient",
        "native", "strictfp", "double", "float", "Object", "System.out", "System.currentTimeMillis",
        "System.nanoTime", "Random", "Thread", "hashCode", "toString", "Exact", "record", "var", "NaN");
    private static final Set<String> IMPORTS = Set.of(
        "import java.util.Arrays;", "import java.util.NoSuchElementException;");
    /** What the class uses of the library so far; whoever uses more of it looks at rule 4 and puts it here. */
    private static final Set<String> LIBRARY = Set.of(
        "Arrays.copyOf", "System.arraycopy", "Math.min", "Math.max");
    private static final Set<String> EXCEPTIONS = Set.of(
        "IllegalStateException", "IllegalArgumentException", "IndexOutOfBoundsException", "NoSuchElementException");
    private static final Pattern OF_A_CLASS = Pattern.compile("\\b[A-Z]\\w*[a-z]\\w*\\.\\w+");
    private static final Pattern THROW = Pattern.compile("\\bthrow\\b(?: new (\\w+)\\(\"?\"?\\);)?");
    private static final int MOST_LINES = 60, MOST_PARAMETERS = 7, MOST_CLASSES = 12, MOST_FIELDS = 20;

    private LanguageTest() {
    }

    public static void main(String[] args) throws Exception {
        Path source = Path.of(args.length > 0 ? args[0] : "src/main/java/KeyStates.java");
        List<String> lines = Files.readAllLines(source);
        int methodLines = 0;
        for (int n = 0; n < lines.size(); n++) {
            String line = lines.get(n);
            String at = "line " + (n + 1);
            check.yes(at + " has signs 1 to 127 alone", line.chars().allMatch(c -> c >= 1 && c <= 127));
            if (line.startsWith("import")) {
                check.yes(at + " imports what is allowed", IMPORTS.contains(line));
            } else {
                words(at, withoutWords(line));
            }
            String code = withoutWords(line);
            methodLines = code.isBlank() || !code.startsWith("    ") || code.matches("    }") ? 0 : methodLines + 1;
            check.yes(at + " is in a short method", methodLines <= MOST_LINES);
        }
        classes();
        check.end();
    }

    private static void words(String at, String code) {
        for (String word : FORBIDDEN) {
            check.yes(at + " has no " + word, !code.matches(".*\\b" + word.replace(".", "\\.") + "\\b.*"));
        }
        check.yes(at + " has no lambda or method reference", !code.contains("->") && !code.contains("::"));
        Matcher used = OF_A_CLASS.matcher(code);
        while (used.find()) {
            check.yes(at + " may use " + used.group(), LIBRARY.contains(used.group()));
        }
        Matcher thrown = THROW.matcher(code);
        while (thrown.find()) {
            check.yes(at + " throws a new one that is allowed",
                thrown.group(1) != null && EXCEPTIONS.contains(thrown.group(1)));
        }
    }

    /** The line without its comment and without what its texts say. */
    private static String withoutWords(String line) {
        String code = line.replaceAll("\"[^\"]*\"", "\"\"").replaceAll("//.*", "");
        return code.trim().startsWith("*") || code.trim().startsWith("/*") ? "" : code;
    }

    private static void classes() {
        List<Class<?>> all = new ArrayList<>(Arrays.asList(KeyStates.class.getDeclaredClasses()));
        all.add(KeyStates.class);
        check.yes("few classes", all.size() <= MOST_CLASSES);
        for (Class<?> c : all) {
            int fields = 0;
            for (Field f : c.getDeclaredFields()) {
                boolean constant = Modifier.isStatic(f.getModifiers());
                fields += constant ? 0 : 1;
                check.yes(f + " is final, if it is static", !constant || Modifier.isFinal(f.getModifiers()));
                check.yes(f + " is of a type that is allowed", isAllowed(f.getType(), all));
            }
            check.yes(c + " has few fields", fields <= MOST_FIELDS);
            for (Method m : c.getDeclaredMethods()) {
                check.yes(m + " takes few arguments", m.getParameterCount() <= MOST_PARAMETERS);
                check.yes(m + " answers what is allowed", isAllowed(m.getReturnType(), all));
                for (Class<?> p : m.getParameterTypes()) {
                    check.yes(m + " takes what is allowed", isAllowed(p, all));
                }
            }
        }
    }

    /** Whole numbers, truths, own classes, and rows of these: no more is used. */
    private static boolean isAllowed(Class<?> type, List<Class<?>> own) {
        Class<?> one = type.isArray() ? type.getComponentType() : type;
        return one.isPrimitive() && one != double.class && one != float.class || own.contains(one);
    }
}
