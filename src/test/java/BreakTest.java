import java.lang.reflect.InvocationTargetException;
import java.net.URL;
import java.net.URLClassLoader;
import java.nio.file.Files;
import java.nio.file.Path;
import java.util.ArrayList;
import java.util.Comparator;
import java.util.List;
import java.util.regex.Matcher;
import java.util.regex.Pattern;
import java.util.stream.Stream;
import javax.tools.StandardJavaFileManager;

/**
 * Breaks the class, one place at a time, and looks whether the test of the sentence that is broken so fails.
 * Its argument is the class's source; whoever changes a piece of it that a break names, changes the break too.
 */
public final class BreakTest {
    private static final Check check = new Check();

    private BreakTest() {
    }

    public static void main(String[] args) throws Exception {
        String source = Files.readString(Path.of(args.length > 0 ? args[0] : "src/main/java/KeyStates.java"));
        Path room = Files.createTempDirectory("broken");
        int broken = 0;
        try (StandardJavaFileManager files = Compile.files()) {
            for (Sentence s : SentenceTest.all()) {
                check.yes(s.id() + " has a break", s.breaks().length >= 2 && s.breaks().length % 2 == 0);
                for (int b = 0; b + 1 < s.breaks().length; b += 2) {
                    String changed = changed(source, s.breaks()[b], s.breaks()[b + 1]);
                    Path dir = Files.createDirectory(room.resolve("b" + broken++));
                    String what = s.id() + " broken by: " + s.breaks()[b + 1] + " for: " + s.breaks()[b];
                    if (changed == null) {
                        check.judge(what, "the piece is not there once", "it is");
                    } else if (!Compile.into(dir, files, "KeyStates", changed)) {
                        check.judge(what, "it does not compile", "it does");
                    } else {
                        check.yes(what + " is seen", !holds(dir, s.id()));
                    }
                }
            }
        } finally {
            removeAll(room);
        }
        System.out.println(broken + " breaks");
        check.end();
    }

    /** The source with the piece, which must stand in it once, in other words; how it is spaced is all one. */
    private static String changed(String source, String piece, String instead) {
        List<String> words = new ArrayList<>();
        for (String word : piece.trim().split("\\s+")) {
            words.add(Pattern.quote(word));
        }
        Matcher m = Pattern.compile(String.join("\\s+", words)).matcher(source);
        if (!m.find()) {
            return null;
        }
        int start = m.start();
        int end = m.end();
        return m.find() ? null : source.substring(0, start) + instead + source.substring(end);
    }

    /** The tests are loaded anew beside the broken class, which stands before the right one. */
    private static boolean holds(Path dir, String id) throws Exception {
        URL tests = SentenceTest.class.getProtectionDomain().getCodeSource().getLocation();
        URL[] where = {dir.toUri().toURL(), tests};
        try (URLClassLoader loader = new URLClassLoader(where, ClassLoader.getPlatformClassLoader())) {
            return (boolean) loader.loadClass("SentenceTest").getMethod("holds", String.class).invoke(null, id);
        } catch (InvocationTargetException e) {
            return false;
        }
    }

    private static void removeAll(Path room) throws Exception {
        try (Stream<Path> all = Files.walk(room)) {
            for (Path path : all.sorted(Comparator.reverseOrder()).toList()) {
                Files.delete(path);
            }
        }
    }
}
