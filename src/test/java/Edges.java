import java.util.HashSet;
import java.util.Set;

/** Tests of single sentences: each names a promise (0: what stands ahead of promise 1) and its words. */
final class Edges {
    private static final Document DOCUMENT = new Document();
    private static final Set<String> LAWS = new HashSet<>();
    private static int edges = 0;

    private Edges() {
    }

    /** The rows hold on a new object. */
    static void edge(int promise, String words, String rows) {
        Runs.run(title(promise, words), rows);
    }

    /** In each state that bears one of these names each row by itself is answered so, and all is as it was. */
    static void refused(int promise, String words, String states, String rows) {
        String title = title(promise, words);
        for (String state : states.split(" ")) {
            for (String row : rows.split("\n")) {
                String plain = row.replaceAll("#.*", "").trim();
                if (!plain.isEmpty()) {
                    Twins.of(state).refuses(title, plain);
                }
            }
        }
    }

    /** A test whose rows are not told as text. */
    static void check(int promise, String words, boolean right, String what) {
        String title = title(promise, words);
        Runs.check(right, title + ": " + what);
    }

    /** A law that the words ahead of promise 1 lay down for all states; one test, in however many it is looked at. */
    static void law(String words, boolean right, String what) {
        if (LAWS.add(words)) {
            title(0, words);
        }
        Runs.check(right, "\"" + words + "\": " + what);
    }

    /** Words that name no boundary; the tests of what they say stand elsewhere. */
    static void plain(int promise, String words) {
        Runs.check(DOCUMENT.name(promise, words), "the document does not say: " + words);
    }

    private static String title(int promise, String words) {
        edges++;
        boolean there = DOCUMENT.name(promise, words);
        Runs.check(there, "promise " + promise + " does not say: " + words);
        return "promise " + promise + ", \"" + words + "\"";
    }

    static void end() {
        for (String words : DOCUMENT.unnamed()) {
            Runs.check(false, "no test names " + words);
        }
        System.out.println(edges + " tests of single sentences");
        Runs.end();
    }
}
