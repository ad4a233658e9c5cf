import java.nio.file.Files;
import java.nio.file.Path;

/** Whether .ci/run refuses what it must: in small projects of its own, each with one thing that is wrong. */
public final class CiTest {
    private static final String CLASS = "public final class MarkedHands { }";
    private static final String GOOD = "public final class %s { public static void main(String[] a) { "
        + "new MarkedHands(); } }";
    private static final String BAD = "public final class %s { public static void main(String[] a) { "
        + "new MarkedHands(); System.exit(1); } }";
    private static final String BROKEN = "public final class %s { not Java }";

    public static void main(String[] args) throws Exception {
        ends(0, "2 passed, 0 failed", CLASS, GOOD, GOOD);
        ends(1, "1 passed, 1 failed", CLASS, BAD, GOOD);
        ends(1, "1 passed, 1 failed", CLASS, GOOD, BAD);
        ends(1, "1 passed, 1 failed", CLASS, GOOD, BROKEN);
        ends(1, "0 passed, 2 failed", "not Java", GOOD, GOOD);
        ends(1, "no folder ../shared/tests", CLASS, null, GOOD);
        ends(1, "1 passed, 1 failed", CLASS, GOOD, null);
        Runs.end();
    }

    /** The script's own end, with one shared test and one of the project, or none where it is null. */
    private static void ends(int due, String last, String program, String shared, String own) throws Exception {
        try (Folder folder = new Folder("ci")) {
            folder.write("main/src/main/java/MarkedHands.java", program);
            if (shared != null) {
                folder.write("shared/tests/Shared.java", shared.formatted("Shared"));
            }
            if (own != null) {
                folder.write("main/src/test/java/OwnTest.java", own.formatted("OwnTest"));
            }
            Path script = folder.write("main/.ci/run", Files.readString(Path.of(".ci/run")));
            Path told = folder.path.resolve("told");
            // Called from elsewhere: the script goes to its own project by itself.
            Process process = new ProcessBuilder("sh", script.toString()).directory(folder.path.toFile())
                .redirectErrorStream(true).redirectOutput(told.toFile()).start();
            int end = process.waitFor();
            String text = Files.readString(told);
            Runs.check(end == due, ".ci/run ended with " + end + ", due is " + due + ":\n" + text);
            Runs.check(text.endsWith(last + "\n"), ".ci/run said last " + text + ", due is " + last);
        }
    }
}
