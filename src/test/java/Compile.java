import java.net.URI;
import java.nio.file.Path;
import java.util.List;
import javax.tools.JavaCompiler;
import javax.tools.JavaFileObject;
import javax.tools.SimpleJavaFileObject;
import javax.tools.StandardJavaFileManager;
import javax.tools.ToolProvider;

/** Compiles a class whose source is a text, for the tests that make one. */
final class Compile {
    private static final JavaCompiler compiler = ToolProvider.getSystemJavaCompiler();

    private Compile() {
    }

    static StandardJavaFileManager files() {
        return compiler.getStandardFileManager(null, null, null);
    }

    /** Whether it compiles; its class files are in the folder then. */
    static boolean into(Path dir, StandardJavaFileManager files, String name, String source) {
        URI uri = URI.create("string:///" + name + ".java");
        JavaFileObject file = new SimpleJavaFileObject(uri, JavaFileObject.Kind.SOURCE) {
            @Override
            public CharSequence getCharContent(boolean ignoreErrors) {
                return source;
            }
        };
        String here = System.getProperty("java.class.path");
        List<String> options = List.of("-d", dir.toString(), "-cp", here, "-nowarn", "-proc:none");
        return compiler.getTask(null, files, null, options, null, List.of(file)).call();
    }
}
