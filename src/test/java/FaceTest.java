import java.lang.reflect.Field;
import java.lang.reflect.Method;
import java.lang.reflect.Modifier;
import java.util.Arrays;
import java.util.TreeSet;

/** The public face is the document's, and nothing else of the class can be seen. */
public final class FaceTest {
    private static final Check check = new Check();
    private static final String I = "IndexOutOfBoundsException", A = "IllegalArgumentException";
    private static final String S = "IllegalStateException", N = "NoSuchElementException";
    private static final String[] METHODS = {
        "int state(int,int,int)", "void key(long)", "boolean leave()", "int span(int)",
        "int put(int,long) " + I + " " + A + " " + S,
        "long value(int) " + I + " " + A + " " + S + " " + N,
        "int add(int,long) " + I + " " + A + " " + S,
        "long item(int,int) " + I + " " + A + " " + S,
        "int set(int,long,long) " + I + " " + A + " " + S,
        "long get(int,long) " + I + " " + A + " " + S + " " + N,
        "long member(int,int) " + I + " " + A + " " + S,
        "boolean remove(int,long) " + I + " " + A + " " + S,
        "int fold(int,long) " + I + " " + A + " " + S,
        "int size(int) " + I + " " + S, "boolean clear(int) " + I + " " + S,
        "int clearSpan()", "int keys(int) " + I, "long keyAt(int,int) " + I,
        "int snapshot()", "int drop(int) " + I, "long ask(int,int,long,int,int) " + I + " " + N,
        "int entries(int,int) " + I, "int restore(int) " + I,
        "int move(int,int,int) " + I, "int of(int,int) " + I, "int told(int)"};

    public static void main(String[] args) {
        Class<KeyStates> c = KeyStates.class;
        check.yes("public and final", c.getModifiers() == (Modifier.PUBLIC | Modifier.FINAL));
        check.yes("one public constructor", c.getDeclaredConstructors().length == 1
                && c.getConstructors().length == 1 && c.getConstructors()[0].getParameterCount() == 0);
        methods(c);
        fields(c);
        for (Class<?> inside : c.getDeclaredClasses()) {
            check.yes(inside + " is static and not public",
                    Modifier.isStatic(inside.getModifiers()) && !Modifier.isPublic(inside.getModifiers()));
        }
        check.end();
    }

    private static void methods(Class<?> c) {
        TreeSet<String> seen = new TreeSet<>();
        TreeSet<String> names = new TreeSet<>();
        for (Method m : c.getDeclaredMethods()) {
            if (Modifier.isPublic(m.getModifiers())) {
                seen.add(told(m));
                names.add(m.getName());
            }
        }
        check.judge("the public methods", seen.toString(), new TreeSet<>(Arrays.asList(METHODS)).toString());
        for (Method m : c.getDeclaredMethods()) {
            if (!Modifier.isPublic(m.getModifiers())) {
                check.yes(m + " is private", Modifier.isPrivate(m.getModifiers()));
                check.yes(m + " has a name of its own", !names.contains(m.getName()));
            }
        }
    }

    private static String told(Method m) {
        StringBuilder text = new StringBuilder(m.getReturnType() + " " + m.getName() + "(");
        for (Class<?> p : m.getParameterTypes()) {
            text.append(text.charAt(text.length() - 1) == '(' ? "" : ",").append(p);
        }
        text.append(')');
        for (Class<?> e : m.getExceptionTypes()) {
            text.append(' ').append(e.getSimpleName());
        }
        return text.toString();
    }

    private static void fields(Class<?> c) {
        int constants = 0;
        for (Field f : c.getDeclaredFields()) {
            if (Modifier.isPublic(f.getModifiers())) {
                constants++;
                check.yes(f + " is an int constant", f.getType() == int.class
                        && Modifier.isStatic(f.getModifiers()) && Modifier.isFinal(f.getModifiers()));
            } else {
                check.yes(f + " is private", Modifier.isPrivate(f.getModifiers()));
            }
            if (Modifier.isStatic(f.getModifiers())) {
                check.yes(f + " is final", Modifier.isFinal(f.getModifiers()));
            }
        }
        check.due("the public constants", 3, count(constants));
        check.due("BAD", -1, () -> KeyStates.BAD);
        check.due("NO", -3, () -> KeyStates.NO);
        check.due("FULL", -4, () -> KeyStates.FULL);
    }

    private static Check.Call count(int n) {
        return () -> n;
    }
}
