/** Promises 7 to 11: hard, worth, fit, off, rank. */
public final class WorthTest {
    private static final String TWO_MARKERS = """
        mark(2, 1, 40, 0) = 1
        mark(2, 3, 30, 0) = 2
        mark(5, 1, 50, 0) = 3
        mark(5, 3, 44, 0) = 4
        """;

    /** Each two of three markers share a script; what does not go up by 3 is dealt out in like shares. */
    private static final String RING = """
        mark(0, 0, 10, 0) = 1
        mark(0, 1, 8, 0) = 2
        mark(1, 1, 10, 0) = 3
        mark(1, 2, 9, 0) = 4
        mark(2, 0, 10, 0) = 5
        mark(2, 2, 4, 0) = 6
        """;

    public static void main(String[] args) {
        hardness();
        worths();
        fits();
        offs();
        ranks();
        severalBundles();
        fourMarkers();
        Runs.end();
    }

    private static void hardness() {
        Runs.run("7 hard", TWO_MARKERS + """
            hard(1) = 0/1
            hard(3) = 8/1
            hard(0) = NOT/NOT
            hard(2, 0) = NOT
            hard(-1, 0) = BAD
            hard(4, 0) = BAD
            hard(1, 2) = BAD
            hard(1, -1) = BAD
            hard(0, 2) = BAD               # ahead of NOT
            mark(0, 3, 77, 1) = 5          # one mark alone tells nothing of its marker
            hard(3) = 8/1
            mark(5, 3, 45, 1) = 6
            hard(3) = 15/2
            mark(2, 3, 100, 1) = 7
            hard(3) = -55/2
            mark(2, 1, -1, 2) = 8
            hard(3) = 5/1
            """);
        Runs.run("7 hard in a ring", RING + """
            hard(0) = 0/1
            hard(1) = 3/1
            hard(2) = 5/1
            """);
    }

    private static void worths() {
        Runs.run("8 worth", TWO_MARKERS + """
            worth(2) = 39/1
            worth(5) = 51/1
            worth(0) = NOT/NOT
            worth(-1, 0) = BAD
            worth(12, 0) = BAD
            worth(2, 2) = BAD
            worth(2, -1) = BAD
            worth(0, 5) = BAD
            mark(7, 3, 45, 1) = 5
            worth(7) = 53/1
            mark(8, 1, 0, 1) = 6
            worth(8) = 0/1
            """);
        Runs.run("8 worth in a ring", RING + """
            worth(0) = 21/2
            worth(1) = 27/2
            worth(2) = 19/2
            """);
        Runs.run("8 worth below 0", """
            mark(0, 0, 0, 0) = 1
            mark(0, 1, 10, 0) = 2
            mark(1, 1, 5, 0) = 3
            worth(1) = -5/1
            hard(1) = -10/1
            """);
    }

    private static void fits() {
        Runs.run("9 fit", TWO_MARKERS + """
            fit(2, 1) = 1/1
            fit(2, 3) = -1/1
            fit(5, 1) = -1/1
            fit(5, 3) = 1/1
            fit(2, 0) = NOT/NOT
            fit(0, 1) = NOT/NOT
            fit(12, 0, 0) = BAD
            fit(-1, 0, 0) = BAD
            fit(2, 4, 0) = BAD
            fit(2, -1, 0) = BAD
            fit(2, 1, 2) = BAD
            fit(2, 1, -1) = BAD
            mark(7, 3, 45, 1) = 5
            fit(7, 3) = 0/1
            """);
        Runs.run("9 fit in a ring", RING + """
            fit(0, 0) = -1/2
            fit(0, 1) = 1/2
            fit(1, 1) = -1/2
            fit(1, 2) = 1/2
            fit(2, 0) = 1/2
            fit(2, 2) = -1/2
            """);
    }

    private static void offs() {
        Runs.run("10 off", TWO_MARKERS + """
            off(1) = 4/1
            off(3) = NOT/NOT               # its bundle bears the number 1
            off(0, 0) = NOT
            off(-1, 0) = BAD
            off(4, 0) = BAD
            off(1, 2) = BAD
            off(0, -1) = BAD
            mark(5, 3, 45, 1) = 5
            off(1) = 5/1
            """);
        Runs.run("10 off in a ring", RING + """
            off(0) = 3/1
            mark(0, 0, -1, 1) = 7
            off(0) = 0/1
            """);
    }

    private static void ranks() {
        Runs.run("11 rank", TWO_MARKERS + """
            mark(7, 3, 45, 1) = 5
            rank(7, 0) = 1                 # worth 53, 51, 39
            rank(5, 0) = 2
            rank(2, 0) = 3
            rank(7, 1) = 2                 # means 45, 47, 35
            rank(5, 1) = 1
            rank(2, 1) = 3
            mark(0, 0, 100, 2) = 6         # of another bundle
            rank(0, 0) = 1
            rank(0, 1) = 1
            rank(2, 0) = 3
            rank(1, 0) = NOT
            rank(1, 1) = NOT
            rank(-1, 0) = BAD
            rank(12, 0) = BAD
            rank(7, 2) = BAD
            rank(7, -1) = BAD
            rank(1, 2) = BAD
            mark(8, 1, 53, 3) = 7          # like ones share a rank
            rank(8, 0) = 1
            rank(7, 0) = 1
            rank(5, 0) = 3
            rank(8, 1) = 1
            mark(0, 0, -1, 4) = 8
            mark(0, 1, 90, 4) = 9          # the first and the last script count
            mark(11, 1, 91, 4) = 10
            rank(0, 0) = 2
            rank(11, 0) = 1
            rank(8, 0) = 3
            rank(5, 1) = 4
            """);
    }

    private static void severalBundles() {
        Runs.run("7 to 10, several bundles", """
            mark(0, 0, 60, 0) = 1
            mark(0, 2, 50, 0) = 2
            mark(1, 0, 70, 0) = 3
            mark(1, 2, 63, 0) = 4
            mark(2, 1, 20, 0) = 5
            mark(2, 3, 26, 0) = 6
            mark(3, 1, 30, 0) = 7
            mark(3, 3, 31, 0) = 8
            count(4) = 2
            hard(0) = 0/1
            hard(1) = 0/1
            hard(2) = 17/2
            hard(3) = -7/2
            worth(0) = 237/4
            worth(1) = 283/4
            worth(2) = 85/4
            worth(3) = 115/4
            off(0) = 3/1
            off(1) = 5/1
            fit(2, 3) = 5/4
            rank(2, 0) = 2
            rank(0, 0) = 2
            """);
    }

    /** Twelve scripts in each of which every marker has its own number: no mark is off. */
    private static void fourMarkers() {
        StringBuilder text = new StringBuilder();
        int[] hard = {0, 3, -4, 11};
        for (int s = 0; s < 12; s++) {
            for (int m = 0; m < 4; m++) {
                if ((s + m) % 3 != 0) {
                    text.append("mark(" + s + ", " + m + ", " + (50 + 2 * s - hard[m]) + ", " + s + ")\n");
                }
            }
        }
        for (int m = 0; m < 4; m++) {
            text.append("hard(" + m + ") = " + hard[m] + "/1\n");
        }
        for (int s = 0; s < 12; s++) {
            text.append("worth(" + s + ") = " + (50 + 2 * s) + "/1\n");
            text.append("rank(" + s + ", 0) = " + (12 - s) + "\n");
        }
        Runs.run("7 to 11, four markers", text + "off(0) = 0/1\n");
    }
}
