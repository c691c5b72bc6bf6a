import java.lang.reflect.Method;
import java.lang.reflect.Modifier;
import java.net.URL;
import java.net.URLClassLoader;
import java.nio.file.Files;
import java.nio.file.Path;
import java.util.ArrayList;
import java.util.List;
import java.util.regex.Matcher;
import java.util.regex.Pattern;
import javax.tools.StandardJavaFileManager;

/** The README's example: each call answers what stands behind it; and every call of the face is named there. */
public final class ReadmeTest {
    private static final Check check = new Check();
    private static final Pattern EXAMPLE = Pattern.compile("(?s)```java\\n(.*?)```");
    /** A name for the answer, if it has one; the call; the answer that is due. */
    private static final Pattern CALL =
        Pattern.compile("(?:int (\\w+) = )?(x\\..*);\\s+// (-?\\d+|true|false|throws \\w+)(?::.*)?");
    private static final Pattern WITHOUT_ANSWER = Pattern.compile("KeyStates x = new KeyStates\\(\\);|x\\.key\\(.*\\);");

    private ReadmeTest() {
    }

    public static void main(String[] args) throws Exception {
        String readme = Files.readString(Path.of("README.md"));
        Matcher example = EXAMPLE.matcher(readme);
        check.yes("the README has an example", example.find());
        List<String> calls = new ArrayList<>();
        List<String> due = new ArrayList<>();
        String[] answers = run(sourceOf(example.group(1), calls, due));
        check.is("answers", due.size(), answers.length);
        for (int n = 0; n < due.size() && n < answers.length; n++) {
            check.judge(calls.get(n), answers[n], due.get(n));
        }
        for (Method m : KeyStates.class.getDeclaredMethods()) {
            if (Modifier.isPublic(m.getModifiers())) {
                check.yes("the README names " + m.getName(), readme.matches("(?s).*[`.]" + m.getName() + "[`(].*"));
            }
        }
        check.end();
    }

    /** A class that makes the example's calls and tells their answers, a line each. */
    private static String sourceOf(String example, List<String> calls, List<String> due) {
        StringBuilder source = new StringBuilder("public final class Example {\n");
        source.append("public static String seen() { StringBuilder seen = new StringBuilder();\n");
        for (String line : example.split("\n")) {
            Matcher call = CALL.matcher(line);
            if (call.matches()) {
                calls.add(call.group(2));
                due.add(call.group(3).replace("throws ", "throws."));
                source.append(told(call.group(1), call.group(2)));
            } else {
                check.yes("\"" + line + "\" tells its answer", line.isBlank() || WITHOUT_ANSWER.matcher(line).matches());
                source.append(line).append('\n');
            }
        }
        return source.append("return seen.toString(); } }\n").toString();
    }

    private static String told(String name, String call) {
        if (name != null) {
            return "int " + name + " = " + call + "; seen.append(" + name + ").append('\\n');\n";
        }
        return "try { seen.append(" + call + ").append('\\n'); } catch (RuntimeException e) {"
            + " seen.append(\"throws.\").append(e.getClass().getSimpleName()).append('\\n'); }\n";
    }

    private static String[] run(String source) throws Exception {
        Path dir = Files.createTempDirectory("readme");
        try (StandardJavaFileManager files = Compile.files()) {
            if (!Compile.into(dir, files, "Example", source)) {
                return new String[0];
            }
            URL[] where = {dir.toUri().toURL()};
            try (URLClassLoader loader = new URLClassLoader(where, ReadmeTest.class.getClassLoader())) {
                return ((String) loader.loadClass("Example").getMethod("seen").invoke(null)).split("\n");
            }
        } finally {
            Files.deleteIfExists(dir.resolve("Example.class"));
            Files.delete(dir);
        }
    }
}
