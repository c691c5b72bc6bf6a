import java.nio.file.Files;
import java.nio.file.Path;
import java.util.List;
import java.util.Set;

/** What of LANGUAGE.md a look at the lines of the source can show. Its argument is the source's path. */
public final class LanguageTest {
    private static final Check check = new Check();
    private static final List<String> FORBIDDEN = List.of(
        "package", "synchronized", "assert", "finally", "try", "catch", "protected", "volatile", "transient",
        "native", "strictfp", "double", "float", "Object", "System.out", "System.currentTimeMillis",
        "System.nanoTime", "Random", "Thread", "hashCode", "toString", "Exact", "record", "var", "NaN");
    private static final Set<String> IMPORTS = Set.of(
        "import java.util.Arrays;", "import java.util.NoSuchElementException;");

    public static void main(String[] args) throws Exception {
        Path source = Path.of(args.length > 0 ? args[0] : "src/main/java/KeyStates.java");
        List<String> lines = Files.readAllLines(source);
        int methodLines = 0;
        for (int n = 0; n < lines.size(); n++) {
            String line = lines.get(n);
            String at = "line " + (n + 1);
            check.yes(at + " has signs 1 to 127 alone", line.chars().allMatch(c -> c >= 1 && c <= 127));
            if (line.startsWith("import")) {
                check.yes(at + " imports what is allowed", IMPORTS.contains(line));
            }
            String code = withoutWords(line);
            for (String word : FORBIDDEN) {
                check.yes(at + " has no " + word, !code.matches(".*\\b" + word.replace(".", "\\.") + "\\b.*"));
            }
            check.yes(at + " has no lambda or method reference", !code.contains("->") && !code.contains("::"));
            methodLines = code.isBlank() || !code.startsWith("    ") || code.matches("    }") ? 0 : methodLines + 1;
            check.yes(at + " is in a short method", methodLines <= 60);
        }
        check.end();
    }

    /** The line without its comment and without what its texts say. */
    private static String withoutWords(String line) {
        String code = line.replaceAll("\"[^\"]*\"", "\"\"").replaceAll("//.*", "");
        return code.trim().startsWith("*") || code.trim().startsWith("/*") ? "" : code;
    }
}
