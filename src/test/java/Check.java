import java.io.IOException;
import java.io.UncheckedIOException;
import java.nio.file.Files;
import java.nio.file.Path;
import java.util.NoSuchElementException;

/** Counts answers that are not as due, and ends a test with exit code 1 if there was one. */
final class Check {
    /** A call that answers a number, or throws. */
    interface Call {
        int answer();
    }

    private static final Path DOCUMENT = Path.of("../shared/DOC.md");

    private static int wrong;
    private static int asked;
    private static String sentence = "";
    private static String document;

    private Check() {
    }

    /** The answers that follow are due by this sentence; it must stand in the document, word by word. */
    static void says(String told) {
        sentence = "";
        due("the document says: " + told, document().contains(told), true);
        sentence = " [" + told + "]";
    }

    private static String document() {
        if (document == null) {
            try {
                document = Files.readString(DOCUMENT);
            } catch (IOException e) {
                throw new UncheckedIOException(e);
            }
        }
        return document;
    }

    static void due(String call, long got, long want) {
        asked++;
        if (got != want) {
            wrong++;
            System.out.println(call + " answered " + got + ", due is " + want + sentence);
        }
    }

    static void due(String call, boolean got, boolean want) {
        due(call, got ? 1 : 0, want ? 1 : 0);
    }

    static void dueNoSuchElement(String call, Call made) {
        due(call + " (1: throws NoSuchElementException)", thrown(made, NoSuchElementException.class), 1);
    }

    static void dueIllegalArgument(String call, Call made) {
        due(call + " (1: throws IllegalArgumentException)",
            thrown(made, IllegalArgumentException.class), 1);
    }

    /** 1 if just this kind is thrown, 0 if nothing is, 2 if something else is. */
    private static int thrown(Call made, Class<? extends RuntimeException> kind) {
        try {
            made.answer();
            return 0;
        } catch (RuntimeException e) {
            return e.getClass() == kind ? 1 : 2;
        }
    }

    static void finish() {
        System.out.println(asked + " answers, " + wrong + " not as due");
        if (wrong != 0 || asked == 0) {
            System.exit(1);
        }
    }
}
