import java.lang.reflect.Field;
import java.lang.reflect.Method;
import java.lang.reflect.Modifier;
import java.nio.file.Files;
import java.nio.file.Path;
import java.util.TreeMap;
import java.util.TreeSet;
import java.util.regex.Matcher;
import java.util.regex.Pattern;

/** The public face is the one that the document writes out, and nothing else of the class can be seen. */
public final class FaceTest {
    private static final Check check = new Check();
    private static final Path DOCUMENT = Path.of("../shared/DOC.md");
    private static final Pattern FACE = Pattern.compile("(?s)## The public face\\s+```java\\n(.*?)```");
    private static final Pattern METHOD = Pattern.compile("public (\\w+ \\w+)\\((.*?)\\)(?: throws (.*?))?;");
    private static final Pattern CONSTANT = Pattern.compile("(\\w+) = (-?\\d+)");
    private static final int METHODS = 26;

    private FaceTest() {
    }

    public static void main(String[] args) throws Exception {
        Class<KeyStates> c = KeyStates.class;
        Matcher face = FACE.matcher(Files.readString(DOCUMENT));
        check.yes("the document has a face", face.find());
        check.yes("public and final", c.getModifiers() == (Modifier.PUBLIC | Modifier.FINAL));
        check.yes("one public constructor", c.getDeclaredConstructors().length == 1
                && c.getConstructors().length == 1 && c.getConstructors()[0].getParameterCount() == 0);
        methods(c, face.group(1));
        fields(c, face.group(1));
        for (Class<?> inside : c.getDeclaredClasses()) {
            check.yes(inside + " is static and not public",
                    Modifier.isStatic(inside.getModifiers()) && !Modifier.isPublic(inside.getModifiers()));
        }
        check.end();
    }

    private static void methods(Class<?> c, String face) {
        TreeSet<String> due = new TreeSet<>();
        Matcher m = METHOD.matcher(face);
        while (m.find()) {
            String types = m.group(2).replace(", ", ",").replaceAll(" \\w+", "");
            due.add(m.group(1) + "(" + types + ")" + (m.group(3) == null ? "" : " " + m.group(3).replace(",", "")));
        }
        check.is("methods of the document", METHODS, due.size());
        TreeSet<String> seen = new TreeSet<>();
        TreeSet<String> names = new TreeSet<>();
        for (Method method : c.getDeclaredMethods()) {
            if (Modifier.isPublic(method.getModifiers())) {
                seen.add(told(method));
                names.add(method.getName());
                check.yes(method + " is of an object", !Modifier.isStatic(method.getModifiers()));
            }
        }
        check.judge("the public methods", seen.toString(), due.toString());
        for (Method method : c.getDeclaredMethods()) {
            if (!Modifier.isPublic(method.getModifiers())) {
                check.yes(method + " is private", Modifier.isPrivate(method.getModifiers()));
                check.yes(method + " has a name of its own", !names.contains(method.getName()));
            }
        }
    }

    private static String told(Method m) {
        StringBuilder text = new StringBuilder(m.getReturnType() + " " + m.getName() + "(");
        for (Class<?> p : m.getParameterTypes()) {
            text.append(text.charAt(text.length() - 1) == '(' ? "" : ",").append(p);
        }
        text.append(')');
        for (Class<?> e : m.getExceptionTypes()) {
            text.append(' ').append(e.getSimpleName());
        }
        return text.toString();
    }

    private static void fields(Class<?> c, String face) throws Exception {
        TreeMap<String, Integer> due = new TreeMap<>();
        Matcher m = CONSTANT.matcher(face);
        while (m.find()) {
            due.put(m.group(1), Integer.valueOf(m.group(2)));
        }
        TreeMap<String, Integer> seen = new TreeMap<>();
        for (Field f : c.getDeclaredFields()) {
            if (Modifier.isPublic(f.getModifiers())) {
                boolean constant = f.getType() == int.class && Modifier.isStatic(f.getModifiers());
                check.yes(f + " is an int constant", constant);
                seen.put(f.getName(), constant ? f.getInt(null) : 0);
            } else {
                check.yes(f + " is private", Modifier.isPrivate(f.getModifiers()));
            }
            if (Modifier.isStatic(f.getModifiers())) {
                check.yes(f + " is final", Modifier.isFinal(f.getModifiers()));
            }
        }
        check.is("constants of the document", 3, due.size());
        check.judge("the public constants", seen.toString(), due.toString());
    }
}
