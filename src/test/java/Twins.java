import java.util.HashMap;
import java.util.List;
import java.util.Map;

/**
 * Whether a refused call leaves all as it was: of two objects with the same calls behind them one is given
 * the refused call too; then both must answer everything alike, but for count(8) where it is a finding.
 */
final class Twins {
    private static final Map<String, Twins> STATES = new HashMap<>();
    private static final String QUESTIONS = questions();

    /** Two bundles as of 7, later marks that wait, grades without a fault, three sheets, finding 5. */
    private static final String BUSY = """
        mark(0, 0, 60, 1)
        mark(0, 1, 50, 1)
        mark(1, 0, 70, 2)
        mark(1, 1, 62, 2)
        mark(2, 1, 40, 3)
        mark(3, 0, 80, 3)
        mark(6, 2, 55, 4)
        mark(7, 2, 45, 4)
        mark(3, 0, -1, 6)
        mark(7, 3, 47, 8)
        mark(11, 3, 20, 8)
        asOf(7)
        type("A=70;B=60.5;D=40")
        price(0, 9)
        price(2, 0)
        sheet(0, 0, 4)
        put(0, 0, 0, 11)
        put(0, 0, 3, -12)
        sheet(1, 1, 9)
        put(1, 1, 0, 4)
        put(1, 1, 2, 33)
        put(1, 1, 8, 101)
        sheet(2, 2, 3)
        put(2, 2, 1, 3)
        sheet(0, 0, -1) = SIZE
        """;

    private final List<String> unhurt;
    private final String ahead;

    private Twins(String ahead) {
        this.ahead = ahead;
        unhurt = lastAnswers(Runs.answers("ahead of a refusal", ahead + "count(8)\n" + QUESTIONS));
    }

    static Twins of(String state) {
        return STATES.computeIfAbsent(state, name -> switch (name) {
            case "EMPTY" -> new Twins("");
            case "BUSY" -> new Twins(BUSY);
            case "FULL" -> new Twins(full());
            default -> throw new IllegalArgumentException("no such state: " + name);
        });
    }

    /** All 48 marks, a hundred tellings, 60 bytes of grades, four sheets of 48 items, finding 2. */
    private static String full() {
        StringBuilder text = new StringBuilder();
        for (int i = 0; i < 100; i++) {
            text.append("mark(" + i / 4 % 12 + ", " + i % 4 + ", " + i * 37 % 101 + ", " + (i < 48 ? 10 : 20) + ")\n");
        }
        text.append("type(\"A=70;B=60;C=50;D=40;E=30;F=20;" + "x".repeat(30) + "\")\n");
        for (int i = 0; i < 4; i++) {
            text.append("price(" + i + ", 99)\n");
            text.append("sheet(" + i + ", " + i % 3 + ", 48)\n");
            text.append("put(" + i + ", " + i % 3 + ", " + (i + 1) + ", " + (20 + i) + ")\n");
            text.append("put(" + i + ", " + i % 3 + ", 47, " + (30 + i) + ")\n");
        }
        return text + "get(0, 0, 48) = LEAST\n";
    }

    /** First what changes nothing, then calls that show what they change. */
    private static String questions() {
        StringBuilder text = new StringBuilder();
        for (int s = 0; s < 12; s++) {
            for (int m = 0; m < 4; m++) {
                text.append("has(" + s + ", " + m + ")\n");
            }
            text.append("bundle(0, " + s + ")\nworth(" + s + ", 0)\nrank(" + s + ", 1)\n");
            text.append("grade(" + s + ")\nhangs(" + s + ")\n");
        }
        for (int i = 0; i < 4; i++) {
            text.append("bundle(1, " + i + ")\nhard(" + i + ", 0)\noff(" + i + ", 0)\nmisses(" + i + ", 37)\n");
            text.append("worst(" + i + ")\nnext(" + i + ")\ntied(" + (i - 1) + ")\ndrift(" + i + ", 0)\n");
            for (int item : new int[] {0, 1, 2, 3, 4, 8, 47}) {
                text.append("get(" + i + ", " + i % 3 + ", " + item + ")\n");
            }
        }
        for (int what = 0; what < 8; what++) {
            text.append("count(" + what + ")\n");
        }
        text.append("agree(0, 1, 0)\nodd()\nfault()\ndigest()\n");
        for (int time : new int[] {0, 1, 5, 8, 10, 19, 999}) {
            text.append("asOf(" + time + ")\ndigest()\n");
        }
        for (int i = 0; i < 4; i++) {
            text.append("price(" + i + ", 7)\nlose(" + i + ")\n");
        }
        return text + "mark(11, 3, 1, 20)\nmark(11, 3, 2, 19)\nhas(11, 3)\ntype(48)\nfault()\nwipe()\ndigest()\n";
    }

    private static List<String> lastAnswers(List<String> answers) {
        return answers.subList(answers.size() - QUESTIONS.split("\n").length - 1, answers.size());
    }

    /** "finding 1" behind a row says what count(8) is then, where the answer itself does not. */
    void refuses(String title, String row) {
        String call = row.replaceAll("\\s+finding \\d", "");
        List<String> got = lastAnswers(Runs.answers(title, ahead + call + "\ncount(8)\n" + QUESTIONS));
        String finding = findingOf(row);
        Runs.check(got.get(0).equals(finding), title + ": count(8) is " + got.get(0) + " behind " + row);
        String[] asked = QUESTIONS.split("\n");
        for (int i = 0; i < asked.length; i++) {
            String due = unhurt.get(i + 1);
            Runs.check(got.get(i + 1).equals(due),
                title + ": behind " + row + " " + asked[i] + " answered " + got.get(i + 1) + ", due is " + due);
        }
    }

    private String findingOf(String row) {
        if (row.contains("finding ")) {
            return row.substring(row.length() - 1);
        }
        List<String> words = List.of("NULL", "INDEX", "CAST", "STORE", "SIZE");
        int number = 1 + words.indexOf(row.substring(row.lastIndexOf(' ') + 1));
        return number > 0 ? "" + number : unhurt.get(0);
    }
}
