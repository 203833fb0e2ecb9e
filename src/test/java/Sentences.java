import java.io.IOException;
import java.nio.file.Files;
import java.nio.file.Path;

/** Runs a test for each sentence of the document, and tells by its words one that does not hold. */
abstract class Sentences extends Checks {
    private static final Path DOCUMENT = Path.of("../shared/DOC.md");
    private static String document = "";
    private static int sentences = 0;

    interface Test {
        void go();
    }

    static void readDocument() throws IOException {
        document = plain(Files.readString(DOCUMENT));
    }

    private static String plain(String text) {
        return text.replace("`", "").replaceAll("\\s+", " ");
    }

    /** The part of the document between two of its headlines, or its beginnings of paragraphs. */
    private static String part(String from, String to) {
        int start = document.indexOf(from);
        int end = start < 0 ? -1 : document.indexOf(to, start + from.length());
        return start < 0 || end < 0 ? "" : document.substring(start, end);
    }

    static void sentence(String words, Test test) {
        about("\"" + words + "\"");
        test(document, words, test);
    }

    /** The words stand under the promise of this number. */
    static void promise(int number, String words, Test test) {
        about("promise " + number + ", \"" + words + "\"");
        test(part("## Promise " + number + ": ", "## "), words, test);
    }

    private static void test(String part, String words, Test test) {
        sentences++;
        int before = checksMade();
        if (!part.contains(words)) {
            fault("these are not the document's words");
        }
        try {
            test.go();
        } catch (RuntimeException e) {
            fault("a call threw " + e);
        }
        if (checksMade() == before) {
            fault("nothing was checked");
        }
    }

    static void finishSentences() {
        System.out.println(sentences + " sentences");
        finish();
    }
}
