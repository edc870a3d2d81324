import java.io.IOException;
import java.nio.file.Files;
import java.nio.file.Path;
import java.util.Objects;

/** Counts and prints the answers that are not the ones that are due. */
final class Check {
    private static final Path DOCUMENT = Path.of("../shared/DOC.md");
    private static int checked = 0;
    private static int wrong = 0;
    private static String document = "";
    private static String words = "";
    private static int before = 0;

    private Check() {
    }

    static void due(String what, Object got, Object due) {
        checked++;
        if (!Objects.equals(got, due)) {
            wrong++;
            System.out.println(words + what + " answered " + got + ", due is " + due);
        }
    }

    /**
     * Says which words of the document the answers that follow are to show, until the next ones;
     * [..] stands for words that are left out.
     */
    static void sentence(String quoted) {
        endSentence();
        for (String stretch : quoted.split("\\[\\.\\.\\]")) {
            due("the document has: " + stretch, document().contains(stretch.strip()), true);
        }
        words = "\"" + quoted + "\": ";
        before = checked;
    }

    /** The same, with what the answers that follow show of these words. */
    static void sentence(String quoted, String shown) {
        sentence(quoted);
        words += "(" + shown + ") ";
    }

    /** The document as one line, as its sentences go over several. */
    private static String document() {
        if (document.isEmpty()) {
            try {
                document = Files.readString(DOCUMENT).replaceAll("```\\w*", " ").replaceAll("\\s+", " ");
            } catch (IOException e) {
                throw new AssertionError("no document at " + DOCUMENT, e);
            }
        }
        return document;
    }

    private static void endSentence() {
        if (!words.isEmpty() && checked == before) {
            wrong++;
            System.out.println(words + "nothing was looked at");
        }
        words = "";
    }

    /** Ends the test: exit code 1 if an answer was wrong, or if nothing was checked. */
    static void end() {
        endSentence();
        System.out.println(checked + " answers looked at, " + wrong + " of them wrong");
        System.exit(wrong == 0 && checked > 0 ? 0 : 1);
    }
}
