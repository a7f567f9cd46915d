import java.io.IOException;
import java.nio.file.Files;
import java.nio.file.Path;
import java.util.NoSuchElementException;

/** Holds answers against what a sentence of the document asks; each sentence is told by its own words. */
final class Check {
    private static final Path DOCUMENT = Path.of("../shared/DOC.md");
    private static String document = "";
    private static String sentence = "";
    private static int sentences = 0;
    private static int answers = 0;
    private static int wrong = 0;

    interface Call {
        int answer();
    }

    private Check() {
    }

    /** What is checked from here on is asked for by these words; they must stand in the document. */
    static void words(String words) {
        sentence = words;
        sentences++;
        if (document.isEmpty()) {
            document = read();
        }
        if (!document.contains(words.replaceAll("\\s+", " "))) {
            tell("these words do not stand in the document");
        }
        if (System.getenv("TELL_WORDS") != null) {
            System.out.println("WORDS " + words);
        }
    }

    static void due(String call, long got, long want) {
        answers++;
        if (got != want) {
            tell(call + " answered " + got + ", due is " + want);
        }
    }

    static void due(String call, boolean got, boolean want) {
        due(call, got ? 1 : 0, want ? 1 : 0);
    }

    static void due(String call, String got, String want) {
        answers++;
        if (!got.equals(want)) {
            tell(call + " answered <" + got + ">, due is <" + want + ">");
        }
    }

    /** NoSuchElementException itself, none that is derived from it. */
    static void dueThrow(String call, Call made) {
        answers++;
        try {
            tell(call + " answered " + made.answer() + ", due is an exception");
        } catch (NoSuchElementException thrown) {
            if (thrown.getClass() != NoSuchElementException.class) {
                tell(call + " threw " + thrown.getClass());
            }
        }
    }

    /** A text that is told as a BURGH to a new object, without a FAULT. */
    static LateMasters town(String text) {
        LateMasters x = new LateMasters();
        if (Feeder.burgh(x, text) < 0) {
            tell("burgh() of <" + text + "> has FAULT " + x.fault());
        }
        return x;
    }

    /** As many MINUTES as are asked for, more than 999, too. */
    static void pass(LateMasters x, int n) {
        for (int left = n; left > 0; left -= 999) {
            x.minutes(Math.min(left, 999));
        }
    }

    static void end(String test) {
        System.out.println(test + ": " + sentences + " sentences, " + answers + " answers, " + wrong + " not as due");
        if (wrong > 0) {
            System.exit(1);
        }
    }

    private static void tell(String what) {
        wrong++;
        System.out.println("\"" + sentence + "\": " + what);
    }

    private static String read() {
        try {
            return Files.readString(DOCUMENT).replaceAll("\\s+", " ");
        } catch (IOException e) {
            tell("no " + DOCUMENT);
            return " ";
        }
    }
}
