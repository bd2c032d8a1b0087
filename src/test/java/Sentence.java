import java.io.IOException;
import java.nio.file.Files;
import java.nio.file.Path;

/** A test of its own for a sentence of the document; the sentence is told in the document's words. */
final class Sentence {
    private static final Path DOCUMENT = Path.of("../shared/DOC.md");
    private static final String WORDS = documentWords();

    private Sentence() {
    }

    /** Runs the test of a sentence, and names the sentence when it doesn't hold. */
    static void holds(String words, Runnable test) {
        Desk.due("the document says <" + words + ">", WORDS.contains(folded(words)), true);
        int wrongBefore = Desk.wrong();
        int checkedBefore = Desk.checked();
        try {
            test.run();
        } catch (RuntimeException thrown) {
            Desk.due("a call threw " + thrown + "; it", true, false);
        }
        Desk.due("a look was taken at <" + words + ">", Desk.checked() > checkedBefore, true);
        if (Desk.wrong() > wrongBefore) {
            System.out.println("DOESN'T HOLD: " + words);
        }
    }

    private static String documentWords() {
        try {
            return folded(Files.readString(DOCUMENT));
        } catch (IOException unread) {
            throw new IllegalStateException("run the tests from the project's folder, beside ../shared", unread);
        }
    }

    /** Lines may be broken anywhere. */
    private static String folded(String text) {
        return text.replaceAll("\\s+", " ").trim();
    }
}
