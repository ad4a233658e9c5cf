import java.io.IOException;
import java.io.UncheckedIOException;
import java.nio.file.Files;
import java.nio.file.Path;
import java.util.ArrayList;
import java.util.List;

/**
 * The document's words from its first line on, by promise (0: what stands ahead of promise 1), and which of them a
 * test has named: so a sentence that no test is about comes to light, and a test of words that are not there too.
 */
final class Document {
    static final int NOT_PROMISED = 36;
    private static final int PROMISES = 35;
    private static final Path PLACE = Path.of("../shared/DOC.md");

    private final String[] parts = new String[NOT_PROMISED + 1];
    private final boolean[][] named = new boolean[NOT_PROMISED + 1][];

    Document() {
        String text = words(read());
        int start = 0;
        for (int promise = 0; promise <= NOT_PROMISED; promise++) {
            int end = promise == NOT_PROMISED ? text.length() : text.indexOf(headBehind(promise));
            parts[promise] = behindSignature(text.substring(start, end).trim());
            named[promise] = new boolean[parts[promise].length()];
            start = end;
        }
    }

    private static String headBehind(int promise) {
        return promise < PROMISES ? "## Promise " + (promise + 1) + ":" : "## Not promised";
    }

    private static String behindSignature(String part) {
        return part.startsWith("## Promise") ? part.substring(part.indexOf("`: ") + 3) : part;
    }

    private static String read() {
        try {
            return Files.readString(PLACE);
        } catch (IOException e) {
            throw new UncheckedIOException(e);
        }
    }

    private static String words(String text) {
        return text.replaceAll("```(text|java)?", " ").replaceAll("\\s+", " ");
    }

    /** Whether the words stand there; they are named from now on. */
    boolean name(int promise, String quote) {
        String sought = words(quote).trim();
        int at = parts[promise].indexOf(sought);
        boolean found = at >= 0 && !sought.isEmpty();
        while (at >= 0 && found) {
            for (int i = at; i < at + sought.length(); i++) {
                named[promise][i] = true;
            }
            at = parts[promise].indexOf(sought, at + 1);
        }
        return found;
    }

    /** The runs of words that no test has named, with their promise. */
    List<String> unnamed() {
        List<String> all = new ArrayList<>();
        for (int promise = 0; promise <= NOT_PROMISED; promise++) {
            StringBuilder run = new StringBuilder();
            for (int i = 0; i <= named[promise].length; i++) {
                if (i < named[promise].length && !named[promise][i]) {
                    run.append(parts[promise].charAt(i));
                } else {
                    if (run.toString().matches(".*\\w.*")) {
                        all.add("promise " + promise + ": " + run.toString().trim());
                    }
                    run.setLength(0);
                }
            }
        }
        return all;
    }
}
