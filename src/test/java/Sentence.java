import java.io.IOException;
import java.nio.charset.StandardCharsets;
import java.nio.file.Files;
import java.nio.file.Path;

/** Tests that are named by a promise's number and by the words of the document that they stand for. */
final class Sentence {
    private static final Path DOCUMENT = Path.of("../shared/DOC.md");
    private static final String HEADING = "## Promise ";
    private static String document = null;

    private Sentence() {
    }

    /** Runs a test; it has passed if it looked at something and all of that was as due. */
    static void test(int promise, String words, Runnable body) {
        int askedBefore = Check.asked();
        int wrongBefore = Check.wrong();
        String end = "as due";
        try {
            body.run();
        } catch (RuntimeException thrown) {
            end = "throws." + thrown.getClass().getSimpleName();
        }
        boolean looked = Check.asked() > askedBefore;
        Check.equal("the test itself", end + (looked ? "" : ", but looked at nothing"), "as due");
        Check.equal("words of promise " + promise, stands(promise, words) ? "in the document" : words, "in the document");
        String outcome = Check.wrong() == wrongBefore ? "ok: " : "FAILED: ";
        System.out.println(outcome + promise + " \"" + words + "\"");
    }

    /** Whether the words stand in the promise's own section or ahead of all promises. */
    private static boolean stands(int promise, String words) {
        String all = document();
        int first = all.indexOf(HEADING + "1:");
        int begin = all.indexOf(HEADING + promise + ":");
        int end = all.indexOf("## ", begin + HEADING.length());
        if (first < 0 || begin < 0 || end < 0) {
            return false;
        }
        return all.substring(begin, end).contains(words) || all.substring(0, first).contains(words);
    }

    private static String document() {
        if (document == null) {
            try {
                document = Files.readString(DOCUMENT, StandardCharsets.UTF_8).replaceAll("\\s+", " ");
            } catch (IOException unread) {
                document = "";
            }
        }
        return document;
    }
}
