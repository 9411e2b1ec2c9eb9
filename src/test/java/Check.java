import java.io.IOException;
import java.nio.file.Files;
import java.nio.file.Path;

/** Counts answers that are not as due; a test's main ends with finish(). */
final class Check {
    private static final Path DOCUMENT = Path.of("..", "shared", "DOC.md");

    private int wrong;
    private int asked;
    private int sentences;
    private String sentence = "";
    private String document = "";

    /** The words of the document that the checks behind this are for. They must stand in it just so. */
    void says(String words) {
        sentence = "'" + words + "': ";
        sentences++;
        yes("the document says it", document().isEmpty() || document().contains(words));
    }

    /** The document in one line, or nothing where it is not at hand. */
    private String document() {
        if (document.isEmpty() && Files.isReadable(DOCUMENT)) {
            try {
                document = Files.readString(DOCUMENT).replaceAll("\\s+", " ");
            } catch (IOException e) {
                System.out.println("the document cannot be read: " + e);
            }
        }
        return document;
    }

    void same(String what, long got, long due) {
        same(what, Long.toString(got), Long.toString(due));
    }

    void same(String what, String got, String due) {
        asked++;
        if (!got.equals(due)) {
            wrong++;
            System.out.println(sentence + what + " answered " + got + ", due is " + due);
        }
    }

    void yes(String what, boolean got) {
        same(what, got ? 1 : 0, 1);
    }

    void no(String what, boolean got) {
        same(what, got ? 1 : 0, 0);
    }

    /** What a call throws: the plain name of the exception, or "nothing". */
    static String thrownBy(Runnable call) {
        try {
            call.run();
            return "nothing";
        } catch (RuntimeException e) {
            return e.getClass().getSimpleName();
        }
    }

    void throwing(String what, String due, Runnable call) {
        same(what + " throws", thrownBy(call), due);
    }

    void index(String what, Runnable call) {
        throwing(what, "IndexOutOfBoundsException", call);
    }

    void argument(String what, Runnable call) {
        throwing(what, "IllegalArgumentException", call);
    }

    void state(String what, Runnable call) {
        throwing(what, "IllegalStateException", call);
    }

    void finish(String test) {
        String held = sentences == 0 ? "" : sentences + " sentences, ";
        System.out.println(test + ": " + held + asked + " answers, " + wrong + " not as due");
        if (wrong != 0) {
            System.exit(1);
        }
    }
}
