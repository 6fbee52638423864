import java.io.IOException;
import java.nio.file.Files;
import java.nio.file.Path;
import java.util.LinkedHashSet;
import java.util.Set;

/** Counts the answers that are not as due; a test ends with it. */
final class Due {
    interface Call {
        long answer();
    }

    /** Where a checkout has the document; without it the quotes alone are not looked at. */
    private static final Path DOCUMENT = Path.of("..", "shared", "DOC.md");

    private static String document = null;
    private static String sentence = "";
    private static int sentences = 0;
    private static final Set<String> BROKEN = new LinkedHashSet<>();
    private static int lookedBefore = 0;
    private static int wrong = 0;
    private static int looked = 0;

    private Due() {
    }

    /** What is looked at from here on holds this sentence, which stands so in the document. */
    static void sentence(String quote) {
        endSentence();
        sentence = quote;
        sentences++;
        lookedBefore = looked;
        if (!documentText().isEmpty() && !documentText().contains(quote)) {
            tell("the document has no such sentence");
        }
    }

    /** What is looked at from here on is of no one sentence. */
    static void noSentence() {
        endSentence();
        sentence = "";
    }

    private static void endSentence() {
        if (!sentence.isEmpty() && looked == lookedBefore) {
            tell("nothing was looked at");
        }
    }

    private static String documentText() {
        if (document == null) {
            try {
                document = Files.exists(DOCUMENT) ? Files.readString(DOCUMENT).replaceAll("\\s+", " ") : "";
            } catch (IOException e) {
                document = "";
            }
        }
        return document;
    }

    /** Runs all of them, one that throws too, and ends the test. */
    static void all(Runnable... tests) {
        for (Runnable test : tests) {
            noSentence();
            try {
                test.run();
            } catch (RuntimeException e) {
                tell("threw " + e + " at " + (e.getStackTrace().length == 0 ? "?" : e.getStackTrace()[0]));
            }
        }
        end();
    }

    static void is(String what, long want, long got) {
        looked++;
        if (got != want) {
            tell(what + " answered " + got + ", due is " + want);
        }
    }

    static void isText(String what, String want, String got) {
        looked++;
        if (!want.equals(got)) {
            tell(what + ": " + got + ", due is " + want);
        }
    }

    static void isSo(String what, boolean holds) {
        looked++;
        if (!holds) {
            tell(what + ": it is not so");
        }
    }

    static void isRefused(String what, Call call) {
        looked++;
        try {
            tell(what + " answered " + call.answer() + ", due is an IllegalArgumentException");
        } catch (RuntimeException e) {
            if (e.getClass() != IllegalArgumentException.class) {
                tell(what + " threw " + e + ", due is an IllegalArgumentException");
            }
        }
    }

    private static void tell(String text) {
        wrong++;
        if (!sentence.isEmpty()) {
            BROKEN.add(sentence);
        }
        if (wrong <= 40) {
            System.out.println((sentence.isEmpty() ? "" : "\"" + sentence + "\" ") + text);
        }
    }

    static void end() {
        noSentence();
        String quoted = sentences == 0 ? "" : ", of " + sentences + " sentences";
        System.out.println(wrong == 0
            ? looked + " answers are as due" + quoted
            : wrong + " of " + looked + " answers are not as due");
        for (String broken : BROKEN) {
            System.out.println("it does not hold: " + broken);
        }
        if (wrong != 0) {
            System.exit(1);
        }
    }
}
