import java.io.ByteArrayOutputStream;
import java.io.File;
import java.io.IOException;
import java.io.PrintStream;
import java.io.UncheckedIOException;
import java.lang.reflect.Method;
import java.lang.reflect.Modifier;
import java.net.URL;
import java.net.URLClassLoader;
import java.nio.charset.StandardCharsets;
import java.nio.file.Files;
import java.nio.file.Path;
import java.util.Arrays;
import javax.tools.ToolProvider;

/** README.md says how to use the class and how to run its tests, and what it says is so. */
public final class ReadmeTest {
    private static final Path README = Path.of("README.md");

    public static void main(String[] args) {
        Due.all(ReadmeTest::example, ReadmeTest::callsAreNamed, ReadmeTest::testsAreNamed);
    }

    static String readme() {
        try {
            return Files.readString(README);
        } catch (IOException e) {
            throw new UncheckedIOException(e);
        }
    }

    /** The first piece of a kind in README.md; empty when there is none. */
    static String piece(String kind) {
        String begin = "```" + kind + "\n";
        int from = readme().indexOf(begin);
        int to = from < 0 ? -1 : readme().indexOf("```", from + begin.length());
        return to < 0 ? "" : readme().substring(from + begin.length(), to);
    }

    static void example() {
        try {
            Due.isText("the example prints", piece("text"), printed(piece("java")));
        } catch (IOException | ReflectiveOperationException e) {
            Due.isText("the example", "it runs", e.toString());
        }
    }

    /** What a class Example prints, compiled and run in a directory that is gone afterwards. */
    static String printed(String example) throws IOException, ReflectiveOperationException {
        Path place = Files.createTempDirectory("example");
        Path file = Files.writeString(place.resolve("Example.java"), example);
        PrintStream before = System.out;
        ByteArrayOutputStream out = new ByteArrayOutputStream();
        try (URLClassLoader loader = new URLClassLoader(new URL[] {place.toUri().toURL()})) {
            int code = ToolProvider.getSystemJavaCompiler().run(null, null, null, "-Xlint:all", "-Werror",
                "-cp", System.getProperty("java.class.path"), "-d", place.toString(), file.toString());
            Due.is("javac of the example", 0, code);
            System.setOut(new PrintStream(out, true, StandardCharsets.UTF_8));
            loader.loadClass("Example").getMethod("main", String[].class).invoke(null, (Object) new String[0]);
        } finally {
            System.setOut(before);
            File[] left = place.toFile().listFiles();
            for (File f : left == null ? new File[0] : left) f.delete();
            Files.delete(place);
        }
        return out.toString(StandardCharsets.UTF_8).replace(System.lineSeparator(), "\n");
    }

    static void callsAreNamed() {
        for (Method m : SquareSymbols.class.getDeclaredMethods()) {
            if (Modifier.isPublic(m.getModifiers())) {
                Due.isSo("README.md names " + m.getName(), readme().contains("| `" + m.getName() + "("));
            }
        }
    }

    static void testsAreNamed() {
        Due.isSo("README.md names .ci/run", readme().contains("\n.ci/run\n"));
        Due.isSo(".ci/run can be run", Files.isExecutable(Path.of(".ci", "run")));
        String[] files = Path.of("src", "test", "java").toFile().list();
        Due.isSo("there are tests", files != null && files.length > 0);
        Arrays.stream(files == null ? new String[0] : files).filter(f -> f.endsWith("Test.java")).forEach(f ->
            Due.isSo("README.md names " + f, readme().contains("| `" + f.replace(".java", "") + "` |")));
    }
}
