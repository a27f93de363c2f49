import java.io.IOException;
import java.nio.file.Files;
import java.nio.file.Path;

/** The document, so that a test that quotes a sentence is known to quote one that stands there. */
final class Document {
    private static final Path PLACE = Path.of("../shared/DOC.md");
    private static String text = null;

    private Document() {
    }

    /** Whether the words stand in the section of the promise, or ahead of all promises, where the terms are told. */
    static boolean says(int promise, String words) {
        String whole = whole();
        if (whole.isEmpty()) {
            return true;
        }
        String told = whole.substring(0, whole.indexOf("## Promise 1:"));
        return told.contains(words) || section(whole, promise).contains(words);
    }

    private static String section(String whole, int promise) {
        int began = whole.indexOf("## Promise " + promise + ":");
        return began < 0 ? "" : whole.substring(began, whole.indexOf("## ", began + 3));
    }

    private static String whole() {
        if (text == null) {
            try {
                text = Files.readString(PLACE).replaceAll("\\s+", " ");
            } catch (IOException e) {
                System.out.println("no " + PLACE + " to look up the sentences in");
                text = "";
            }
        }
        return text;
    }
}
