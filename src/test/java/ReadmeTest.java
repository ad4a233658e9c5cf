import java.io.IOException;
import java.io.StringWriter;
import java.lang.reflect.Method;
import java.lang.reflect.Modifier;
import java.net.URL;
import java.net.URLClassLoader;
import java.nio.file.Files;
import java.nio.file.Path;
import java.util.ArrayList;
import java.util.List;
import java.util.Set;
import java.util.TreeSet;
import java.util.regex.Matcher;
import java.util.regex.Pattern;
import java.util.stream.Stream;
import javax.tools.JavaCompiler;
import javax.tools.StandardJavaFileManager;
import javax.tools.ToolProvider;

/** Whether README.md is true: the calls that it shows, compiled and made as they stand, and its words on the tests. */
public final class ReadmeTest {
    private static final Path README = Path.of("README.md");
    private static final Path CI = Path.of(".ci/run");
    private static final Pattern BLOCK = Pattern.compile("(?ms)^```(\\w+)\\n(.*?)^```$");
    private static final Pattern CALL = Pattern.compile("(hands\\.(\\w+)\\(.*\\)); +// ([^:]+?)(?:: .*)?");
    private static final int MOST_CALLS = 512;

    /** What stands around the rows of README.md. */
    private static final String FRAME = """
        public final class Shown {
            public static int calls = 0;
            private static final java.util.List<String> WRONG = new java.util.ArrayList<>();

            private static void due(String call, long got, long want) {
                calls++;
                if (got != want) {
                    WRONG.add(call + " answered " + got + ", README.md says " + want);
                }
            }

            public static java.util.List<String> wrong() {
                BODY
                return WRONG;
            }
        }
        """;

    public static void main(String[] args) throws Exception {
        String readme = Files.readString(README);
        calls(blocks(readme, "java"));
        howToRun(blocks(readme, "sh"), Files.readString(CI));
        paths(readme);
        table(readme);
        Runs.end();
    }

    private static List<String> blocks(String readme, String language) {
        List<String> all = new ArrayList<>();
        Matcher block = BLOCK.matcher(readme);
        while (block.find()) {
            if (block.group(1).equals(language)) {
                all.add(block.group(2));
            }
        }
        return all;
    }

    // ---- use

    private static void calls(List<String> blocks) throws Exception {
        StringBuilder body = new StringBuilder();
        Set<String> shown = new TreeSet<>();
        for (String block : blocks) {
            for (String row : block.split("\n")) {
                body.append(asJava(row, shown)).append('\n');
            }
        }
        for (Method m : MarkedHands.class.getDeclaredMethods()) {
            boolean isPublic = Modifier.isPublic(m.getModifiers());
            Runs.check(!isPublic || shown.contains(m.getName()), "README.md shows no answer of " + m.getName());
        }
        run(body.toString());
    }

    /** A row with an answer becomes a check; a row without one is left as it stands. */
    private static String asJava(String row, Set<String> shown) {
        Matcher call = CALL.matcher(row);
        if (call.matches()) {
            shown.add(call.group(2));
            return "due(\"" + call.group(1) + "\", " + call.group(1) + ", " + call.group(3) + ");";
        }
        boolean isTold = row.contains("//") || row.startsWith("hands.");
        Runs.check(!isTold, "README.md has a row whose answer cannot be read: " + row);
        return row;
    }

    private static void run(String body) throws Exception {
        try (Folder folder = new Folder("readme")) {
            Path source = folder.write("Shown.java", FRAME.replace("BODY", body));
            StringWriter told = new StringWriter();
            if (isCompiled(source, folder.path, told)) {
                make(folder.path);
            } else {
                Runs.check(false, "what README.md shows does not compile: " + told);
            }
        }
    }

    private static boolean isCompiled(Path source, Path folder, StringWriter told) throws IOException {
        JavaCompiler compiler = ToolProvider.getSystemJavaCompiler();
        List<String> options = List.of("-proc:none", "-cp", System.getProperty("java.class.path"), "-d", "" + folder);
        try (StandardJavaFileManager files = compiler.getStandardFileManager(null, null, null)) {
            return compiler.getTask(told, files, null, options, null, files.getJavaFileObjects(source)).call();
        }
    }

    private static void make(Path folder) throws Exception {
        try (URLClassLoader loader = new URLClassLoader(new URL[] {folder.toUri().toURL()})) {
            Class<?> shown = loader.loadClass("Shown");
            List<?> wrong = (List<?>) shown.getMethod("wrong").invoke(null);
            int calls = shown.getField("calls").getInt(null);
            Runs.check(wrong.isEmpty(), "of " + calls + " answers in README.md " + wrong + " are not as due");
            Runs.check(calls > 50 && calls < MOST_CALLS, "README.md shows " + calls + " calls");
        }
    }

    // ---- tests

    /** The words are those of .ci/run: how it is called, and how it compiles and runs one test. */
    private static void howToRun(List<String> blocks, String ci) {
        Runs.check(Files.isExecutable(CI), ".ci/run cannot be run");
        Runs.check(blocks.size() == 2, "README.md has two blocks on how to run the tests");
        Runs.check(blocks.get(0).equals(".ci/run\n"), "README.md does not say .ci/run");
        String main = valueOf("main", ci);
        String one = ci.lines().filter(row -> row.contains("javac ")).findFirst().orElse("")
            .replaceAll("^ *if |; then$", "").replace(" && ", "\n").replace("\"$out\"", "out")
            .replace("\"$main\"", main).replace("\"$1\"", "src/test/java/MarksTest.java")
            .replace("\"$name\"", "MarksTest");
        Runs.check(blocks.get(1).equals(one + "\n"), "README.md runs one test so:\n" + blocks.get(1)
            + ".ci/run so:\n" + one);
        Runs.check(valueOf("shared", ci).equals("../shared/tests"), ".ci/run has another folder of shared tests");
        Runs.check(ci.contains("for test in \"$shared\"/*.java; do"), ".ci/run does not go through ../shared/tests");
        Runs.check(ci.contains("for test in src/test/java/*Test.java; do"), ".ci/run does not go through the tests");
        Runs.check(ci.contains("echo \"$passed passed, $failed failed\""), ".ci/run does not say how many");
    }

    private static String valueOf(String name, String ci) {
        Matcher set = Pattern.compile("(?m)^" + name + "=(.*)$").matcher(ci);
        return set.find() ? set.group(1) : "";
    }

    private static void paths(String readme) {
        Matcher path = Pattern.compile("`([\\w./]+/[\\w./]+)`").matcher(readme);
        int n = 0;
        while (path.find()) {
            n++;
            boolean isThere = Files.exists(Path.of(path.group(1)));
            Runs.check(isThere, "README.md names " + path.group(1) + ", and it is not there");
        }
        Runs.check(n > 0, "README.md names no file");
    }

    private static void table(String readme) throws IOException {
        Set<String> told = new TreeSet<>();
        Matcher row = Pattern.compile("(?m)^\\| (\\w+Test) \\| .+ \\|$").matcher(readme);
        while (row.find()) {
            told.add(row.group(1));
        }
        Set<String> there = new TreeSet<>();
        try (Stream<Path> files = Files.list(Path.of("src/test/java"))) {
            files.map(file -> file.getFileName().toString()).filter(name -> name.endsWith("Test.java"))
                .forEach(name -> there.add(name.replace(".java", "")));
        }
        Runs.check(told.equals(there), "README.md tells the tests " + told + ", there are " + there);
    }
}
