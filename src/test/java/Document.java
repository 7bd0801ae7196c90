import java.io.IOException;
import java.io.UncheckedIOException;
import java.nio.file.Files;
import java.nio.file.Path;

/** The document's words, so that a test's sentence can be looked for in it. */
final class Document {
    private static final String WORDS = words();

    private Document() {
    }

    private static String words() {
        try {
            return plain(Files.readString(Path.of(System.getProperty("document", "../shared/DOC.md"))));
        } catch (IOException e) {
            throw new UncheckedIOException(e);
        }
    }

    private static String plain(String text) {
        return text.replaceAll("\\s+", " ");
    }

    /** Whether a promise's section, or what stands ahead of all promises, has these words. */
    static boolean says(int promise, String words) {
        String terms = WORDS.substring(0, WORDS.indexOf("## Promise 1:"));
        return terms.contains(plain(words)) || section(promise).contains(plain(words));
    }

    private static String section(int promise) {
        int from = WORDS.indexOf("## Promise " + promise + ":");
        int to = WORDS.indexOf("## ", from + 3);
        return WORDS.substring(from, to);
    }
}
