import java.lang.reflect.Constructor;
import java.lang.reflect.Field;
import java.lang.reflect.Method;
import java.lang.reflect.Modifier;
import java.nio.file.Files;
import java.nio.file.Path;
import java.util.Arrays;
import java.util.HashSet;
import java.util.Set;
import java.util.TreeSet;

/** The public face of the document, and what can be looked up of LANGUAGE.md. */
public final class FaceTest {
    public static void main(String[] args) throws Exception {
        face();
        classesInside();
        text();
        Due.end();
    }

    static void face() {
        Class<?> c = SquareSymbols.class;
        Due.is("public and final", Modifier.PUBLIC | Modifier.FINAL, c.getModifiers());
        Set<String> due = new TreeSet<>(Arrays.asList(
            "int put(int, long) throws", "int repeat(int, int) throws", "int wipe()", "int at(int)",
            "int make(int, int, int) throws", "int blank(int) throws", "int told(int) throws",
            "int segment(int, int) throws", "long row(int, int)", "int spoil(int, int, long)",
            "int read()", "int fault()", "int reading(int) throws"));
        Set<String> got = new TreeSet<>();
        Set<String> publicNames = new HashSet<>();
        for (Method m : c.getDeclaredMethods()) {
            if (!Modifier.isPrivate(m.getModifiers())) {
                publicNames.add(m.getName());
                got.add(told(m));
            }
        }
        Due.isText("methods", due.toString(), got.toString());
        for (Method m : c.getDeclaredMethods()) {
            if (Modifier.isPrivate(m.getModifiers())) {
                Due.is("private " + m.getName(), 0, publicNames.contains(m.getName()) ? 1 : 0);
            }
        }
        Due.is("constructors", 1, c.getDeclaredConstructors().length);
        for (Constructor<?> k : c.getDeclaredConstructors()) {
            Due.is("constructor", Modifier.PUBLIC, k.getModifiers());
            Due.is("constructor's parameters", 0, k.getParameterCount());
        }
        StringBuilder fields = new StringBuilder();
        for (Field f : c.getDeclaredFields()) {
            if (!Modifier.isPrivate(f.getModifiers())) {
                fields.append(f).append(';');
            }
        }
        Due.isText("fields", "public static final int SquareSymbols.NONE;", fields.toString());
    }

    static String told(Method m) {
        StringBuilder out = new StringBuilder(m.getReturnType().toString());
        out.append(' ').append(m.getName()).append('(');
        for (Class<?> p : m.getParameterTypes()) {
            out.append(out.charAt(out.length() - 1) == '(' ? "" : ", ").append(p);
        }
        out.append(')');
        boolean isRefusing = Arrays.equals(m.getExceptionTypes(), new Class<?>[] {IllegalArgumentException.class});
        return out.append(isRefusing ? " throws" : "").toString();
    }

    static void classesInside() {
        Class<?>[] inside = SquareSymbols.class.getDeclaredClasses();
        Due.is("no more than twelve classes", 1, inside.length + 1 <= 12 ? 1 : 0);
        for (Class<?> c : inside) {
            Due.is(c + " is static", 1, Modifier.isStatic(c.getModifiers()) ? 1 : 0);
            Due.is(c + " is not public", 0, Modifier.isPublic(c.getModifiers()) ? 1 : 0);
            int own = 0;
            for (Field f : c.getDeclaredFields()) {
                if (Modifier.isStatic(f.getModifiers())) {
                    Due.is(f + " is final", 1, Modifier.isFinal(f.getModifiers()) ? 1 : 0);
                } else {
                    own++;
                }
            }
            Due.is(c + " has no more than twenty fields", 1, own <= 20 ? 1 : 0);
            for (Method m : c.getDeclaredMethods()) {
                Due.is(m + " has no more than seven parameters", 1, m.getParameterCount() <= 7 ? 1 : 0);
            }
        }
    }

    static void text() throws Exception {
        String text = Files.readString(Path.of("src/main/java/SquareSymbols.java"));
        String[] ruledOut = {"catch", "finally", "->", "::", "assert", "synchronized", "System.out", "Exact(", "\npackage"};
        for (String word : ruledOut) Due.is("has " + word, -1, text.indexOf(word));
        String[] lines = text.split("\n");
        for (String line : lines) {
            if (line.startsWith("import")) Due.isText("import", "import java.util.Arrays;", line);
            if (line.contains("throw new")) Due.is(line, 1, line.contains("throw new IllegalArgumentException(\"") ? 1 : 0);
        }
        for (int i = 0; i < text.length(); i++) {
            if (text.charAt(i) > 255) Due.is("character " + i, 255, text.charAt(i));
        }
    }
}
