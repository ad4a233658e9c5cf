/** The boundaries of part 5 and of promises 24 to 27: drift, agree, odd, without. */
final class MarkersEdges {
    private static final String ALL = "EMPTY BUSY FULL";

    /** Two markers that could not disagree more. */
    private static final String CROSSED = """
        mark(0, 0, 100, 0) = 1
        mark(0, 1, 0, 0) = 2
        mark(1, 0, 0, 0) = 3
        mark(1, 1, 100, 0) = 4
        """;

    private MarkersEdges() {
    }

    static void run() {
        laterAndEarlier();
        toldAgain();
        agreement();
        chanceOfHowMany();
        chanceRounded();
        oddest();
        withoutIt();
        drift();
        agree();
        odd();
        without();
    }

    /** Marker 0 has 50 for each script, marker 1 so much more, told in the order of the scripts. */
    private static String more(int... by) {
        StringBuilder text = new StringBuilder();
        for (int s = 0; s < by.length; s++) {
            text.append("mark(" + s + ", 0, 50, 0)\nmark(" + s + ", 1, " + (50 + by[s]) + ", 0)\n");
        }
        return text.toString();
    }

    private static void laterAndEarlier() {
        String words = """
            ======== 5 DRIFT of a MARKER: the mean of FITS of its later MARKS less that of the earlier ones:
            by the order in which the MARKS that there are were told, of n the last (n by 2, cut) and the
            first (n by 2, cut); a FRACTION.""";
        Edges.edge(0, words, more(3) + "drift(0, 0) = NOT\ndrift(1, 0) = NOT\n");
        Edges.edge(0, words, more(3, 5) + "drift(1) = 1/1\ndrift(0) = -1/1\n");
        Edges.edge(0, words, more(3, 40, 5) + "drift(1) = 1/1               # of three the middle one is aside\n");
        Edges.edge(0, words, more(3, 4, 5, 7) + "drift(1) = 5/4   # 6 less 3 and a half, and half of that\n");
        Edges.edge(0, words, more(3, 4, 40, 5, 7) + "drift(1) = 5/4\n");
        Edges.edge(0, words, more(0, 0, 0, 0, 0, 50, 2, 2, 2, 2, 2) + "drift(1) = 1/1\ndrift(0) = -1/1\n");
        Edges.edge(0, words, more(0, 0, 0, 0, 0, 6, 2, 2, 2, 2, 2, 2)
            + "drift(1) = 1/2               # of twelve none is aside\ndrift(0) = -1/2\n");
        Edges.edge(0, words, more(4, 4) + "drift(1) = 0/1\n");
        Edges.edge(0, words, more(-50, 50) + "drift(1) = 50/1\ndrift(0) = -50/1\n");
    }

    private static void toldAgain() {
        Edges.edge(0, "by the order in which the MARKS that there are were told,", more(3, 5, 9) + """
            drift(1) = 3/1                 # 9 less 3, and half of that
            mark(0, 1, 53, 0) = 7          # script 0 is the last one now: 5, 9, 3
            drift(1) = -1/1
            mark(1, 1, -1, 0) = 8          # 9, 3
            drift(1) = -3/1
            mark(2, 1, -1, 1) = 9
            drift(1, 0) = NOT              # one is left
            asOf(0)
            drift(1) = -3/1
            """);
        Edges.edge(0, "by the order in which the MARKS that there are were told,", """
            mark(11, 0, 50, 0) = 1
            mark(11, 3, 53, 0) = 2
            mark(0, 0, 50, 0) = 3
            mark(0, 3, 55, 0) = 4
            drift(3) = 1/1                 # not by the numbers of scripts
            mark(5, 0, 50, 0) = 5          # a mark of another hand is not one of its own
            drift(3) = 1/1
            """);
    }

    private static void agreement() {
        String words = """
            AGREE: of two MARKERS, over pairs of SCRIPTS that both marked: how many pairs both put in one order, less
            how many they put in two (those that one of both has as like are aside).""";
        Edges.edge(0, words, """
            mark(0, 1, 10, 0) = 1
            mark(0, 2, 10, 0) = 2
            mark(1, 1, 11, 0) = 3
            mark(1, 2, 11, 0) = 4
            agree(1, 2, 0) = 1
            mark(1, 2, 10, 0) = 5
            agree(1, 2, 0) = 0             # the second has them as like
            mark(1, 1, 10, 0) = 6
            agree(1, 2, 0) = 0             # both
            mark(1, 2, 9, 0) = 7
            agree(1, 2, 0) = 0             # the first
            mark(1, 1, 11, 0) = 8
            agree(1, 2, 0) = -1
            mark(2, 1, 0, 0) = 9           # one hand alone
            mark(3, 2, 100, 0) = 10
            agree(1, 2, 0) = -1
            """);
        Edges.edge(0, words, rising(12) + "agree(1, 3, 0) = 66\nagree(3, 1, 0) = 66\n");
        Edges.edge(0, words, falling(12) + "agree(1, 3, 0) = -66\nagree(3, 1, 0) = -66\n");
    }

    private static String rising(int scripts) {
        StringBuilder text = new StringBuilder();
        for (int s = 0; s < scripts; s++) {
            text.append("mark(" + s + ", 1, " + s + ", 0)\nmark(" + s + ", 3, " + (50 + s) + ", 0)\n");
        }
        return text.toString();
    }

    private static String falling(int scripts) {
        StringBuilder text = new StringBuilder();
        for (int s = 0; s < scripts; s++) {
            text.append("mark(" + s + ", 1, " + s + ", 0)\nmark(" + s + ", 3, " + (50 - s) + ", 0)\n");
        }
        return text.toString();
    }

    private static void chanceOfHowMany() {
        String words = """
            CHANCE: of all orders in which the second's MARKS could be dealt over these SCRIPTS
            (2 to 7 of them: FULL above)""";
        Edges.edge(0, words, rising(1) + "agree(1, 3, 1) = NOT\nagree(1, 3, 0) = NOT\n");
        Edges.edge(0, words, rising(2) + "agree(1, 3, 1) = 500000\n");
        Edges.edge(0, words, rising(7) + "agree(1, 3, 1) = 198\nagree(3, 1, 1) = 198\n");
        Edges.edge(0, words, rising(8) + "agree(1, 3, 1) = FULL\nagree(3, 1, 1) = FULL\nagree(1, 3, 0) = 28\n");
        Edges.edge(0, words, rising(12) + "agree(1, 3, 1) = FULL\n");
        Edges.edge(0, words, rising(8) + """
            mark(7, 3, -1, 1)
            agree(1, 3, 1) = 198           # seven that both marked, of eight
            asOf(0)
            agree(1, 3, 1) = FULL
            """);
        Edges.edge(0, words, falling(7) + "agree(1, 3, 0) = -21\nagree(1, 3, 1) = 1000000\n");
    }

    private static void chanceRounded() {
        String words = "the share by which AGREE is as much or more; in millionths, rounded down.";
        Edges.edge(0, words, falling(2) + "agree(1, 3, 1) = 1000000\n");
        Edges.edge(0, words, rising(3) + "agree(1, 3, 1) = 166666        # one of six\n");
        Edges.edge(0, words, rising(3) + """
            mark(0, 3, 51, 0)
            mark(1, 3, 50, 0)
            agree(1, 3, 0) = 1
            agree(1, 3, 1) = 500000        # the two that have as much count too
            mark(2, 3, 49, 0)
            agree(1, 3, 0) = -3
            agree(1, 3, 1) = 1000000
            """);
        Edges.edge(0, words, rising(3) + """
            mark(0, 3, 51, 0)
            agree(1, 3, 0) = 2             # 51 51 52: 2 twice, 0 twice, -2 twice
            agree(1, 3, 1) = 333333
            mark(2, 3, 51, 0)
            agree(1, 3, 0) = 0             # all alike
            agree(1, 3, 1) = 1000000
            """);
        Edges.edge(0, words, rising(7) + """
            mark(5, 3, 56, 0)
            mark(6, 3, 55, 0)
            agree(1, 3, 0) = 19
            agree(1, 3, 1) = 1388          # seven of 5040: 1388.9
            """);
        chanceOfLikeMarks(words);
    }

    /** With like marks orders can be off by one, and the more and the less are not dealt alike. */
    private static void chanceOfLikeMarks(String words) {
        Edges.edge(0, words, more(0, 0, 0, 0) + """
            mark(2, 0, 51, 0)
            mark(3, 0, 52, 0)
            mark(1, 1, 52, 0)
            mark(2, 1, 51, 0)
            mark(3, 1, 51, 0)
            agree(0, 1, 0) = 0             # 4, 2, 0, -2, -4 four times each, 1 and -1 twice
            agree(0, 1, 1) = 583333
            """);
        Edges.edge(0, words, more(0, 0, 0) + """
            mark(2, 0, 60, 0)
            mark(2, 1, 60, 0)
            agree(0, 1, 0) = 2             # 50 50 60 both: 2 where 60 meets 60, -1 elsewhere
            agree(0, 1, 1) = 333333
            mark(0, 1, 70, 0)
            mark(1, 1, 70, 0)
            agree(0, 1, 0) = -2            # 70 70 60: -2 where it meets 60, 1 elsewhere
            agree(0, 1, 1) = 1000000
            mark(2, 1, 70, 0)
            mark(1, 1, 60, 0)
            agree(0, 1, 0) = 1
            agree(0, 1, 1) = 666666
            """);
    }

    private static void oddest() {
        String words = "ODD: the MARK the amount of whose FIT is greatest, "
            + "of like ones the least SCRIPT, then the least MARKER.";
        Edges.edge(0, words, """
            odd() = NONE
            mark(11, 3, 50, 0) = 1
            odd() = 47                     # the only one, though it fits
            mark(11, 2, 50, 0) = 2
            odd() = 46                     # the least marker
            mark(10, 3, 50, 0) = 3
            odd() = 43                     # the least script
            mark(0, 0, 50, 0) = 4
            odd() = 0
            """);
        Edges.edge(0, words, CROSSED + """
            odd() = 0                      # amounts: 50, -50, -50, 50
            mark(2, 2, 0, 0) = 5
            mark(2, 3, 100, 0) = 6
            mark(3, 2, 100, 0) = 7
            mark(3, 3, 0, 0) = 8
            odd() = 0                      # as much in another bundle
            mark(1, 1, 99, 0) = 9
            odd() = 10                     # now more: 50 against 199 by 4
            mark(3, 3, 1, 0) = 10
            odd() = 0
            """);
    }

    private static void withoutIt() {
        String words = "WITHOUT it: OFF of what is left of its BUNDLE, of all BUNDLES it may be then together.";
        Edges.edge(0, words, """
            mark(0, 0, 50, 0) = 1
            without(0, 0) = 0/1            # nothing is left
            mark(0, 1, 40, 0) = 2
            without(0, 0) = 0/1
            mark(1, 0, 40, 0) = 3
            mark(1, 1, 50, 0) = 4
            off(0) = 20/1
            without(0, 0) = 0/1
            mark(4, 3, 50, 0) = 5
            without(4, 3) = 0/1            # of another bundle nothing
            mark(4, 0, 50, 0) = 6
            without(4, 3) = 20/1           # marker 3 with none
            without(4, 0) = 20/1           # two bundles: 20 and 0
            """);
        Edges.edge(0, words, CROSSED + """
            mark(2, 2, 0, 0) = 5
            mark(2, 3, 100, 0) = 6
            mark(3, 2, 100, 0) = 7
            mark(3, 3, 0, 0) = 8
            mark(4, 0, 1, 0) = 9
            mark(4, 3, 99, 0) = 10
            off(0) = 400/1
            without(4, 0) = 400/1          # of both bundles that are left
            without(4, 3) = 400/1
            without(0, 0) = 200/1
            without(3, 3) = 200/1
            mark(4, 3, -1, 1) = 11
            without(4, 0) = 200/1          # of its own
            """);
    }

    private static void drift() {
        Edges.edge(24, "DRIFT: above, below.", """
            mark(0, 0, 50, 0) = 1
            mark(0, 3, 50, 0) = 2
            mark(11, 0, 50, 0) = 3
            mark(11, 3, 51, 0) = 4
            drift(0) = -1/2
            drift(3) = 1/2
            """);
        Edges.refused(24, "BAD;", ALL, """
            drift(-1, 0) = BAD
            drift(4, 0) = BAD
            drift(LEAST, 0) = BAD
            drift(GREATEST, 0) = BAD
            drift(0, -1) = BAD
            drift(0, 2) = BAD
            drift(3, LEAST) = BAD
            drift(3, GREATEST) = BAD
            """);
        Edges.refused(24, "NOT: fewer than two MARKS.", "EMPTY", "drift(0, 0) = NOT\ndrift(3, 1) = NOT\n");
        Edges.refused(24, "NOT: fewer than two MARKS.", "BUSY", "drift(3, 0) = NOT\ndrift(3, 1) = NOT\n");
        Edges.edge(24, "NOT: fewer than two MARKS.", """
            mark(0, 2, 50, 0) = 1
            drift(2) = NOT/NOT
            mark(0, 2, 51, 0) = 2          # the same mark again is not two
            drift(2) = NOT/NOT
            mark(1, 2, 50, 0) = 3
            drift(2) = 0/1
            mark(0, 2, -1, 0) = 4
            drift(2) = NOT/NOT
            """);
        Edges.edge(24, "(As the least long.)", """
            drift(4, 0) = -9223372036854775806
            drift(0, 0) = -9223372036854775805
            """);
    }

    private static void agree() {
        Edges.edge(25, "AGREE (how = 0), CHANCE (1).", """
            mark(0, 0, 1, 0) = 1
            mark(0, 3, 1, 0) = 2
            mark(11, 0, 2, 0) = 3
            mark(11, 3, 2, 0) = 4
            agree(0, 3, 0) = 1
            agree(0, 3, 1) = 500000
            agree(3, 0, 0) = 1
            agree(3, 0, 1) = 500000
            """);
        Edges.refused(25, "BAD: also a MARKER with itself;", ALL, """
            agree(-1, 0, 0) = BAD
            agree(4, 0, 0) = BAD
            agree(LEAST, 0, 0) = BAD
            agree(GREATEST, 0, 0) = BAD
            agree(0, -1, 0) = BAD
            agree(0, 4, 0) = BAD
            agree(0, LEAST, 0) = BAD
            agree(0, GREATEST, 0) = BAD
            agree(0, 1, -1) = BAD
            agree(0, 1, 2) = BAD           # of all twelve too: ahead of FULL
            agree(0, 0, 0) = BAD           # with itself
            agree(3, 3, 1) = BAD
            """);
        Edges.refused(25, "NOT: fewer than two SCRIPTS;", "EMPTY", "agree(0, 1, 0) = NOT\nagree(3, 2, 1) = NOT\n");
        Edges.refused(25, "NOT: fewer than two SCRIPTS;", "BUSY", """
            agree(0, 2, 0) = NOT
            agree(2, 3, 0) = NOT
            agree(3, 2, 1) = NOT
            """);
        Edges.edge(25, "NOT: fewer than two SCRIPTS;", rising(1) + """
            agree(1, 3, 0) = NOT
            mark(1, 1, 5, 0) = 3
            mark(2, 3, 5, 0) = 4
            agree(1, 3, 0) = NOT           # two each, but one of both
            mark(2, 1, 5, 0) = 5
            agree(1, 3, 0) = -1
            """);
        Edges.refused(25, "FULL (1 alone).", "FULL", "agree(0, 1, 1) = FULL\nagree(3, 2, 1) = FULL\n");
        Edges.edge(25, "FULL (1 alone).", rising(8) + """
            agree(1, 3, 0) = 28
            agree(1, 3, 1) = FULL
            agree(1, 2, 1) = NOT
            """);
    }

    private static void odd() {
        Edges.edge(26, "ODD: 4 times its SCRIPT and its MARKER; NONE: no MARKS.", """
            odd() = NONE
            mark(0, 0, 0, 5) = 1
            odd() = 0
            mark(0, 0, -1, 6) = 2
            odd() = NONE
            mark(11, 3, 0, 7) = 3
            odd() = 47
            asOf(5)
            odd() = 0
            asOf(4)
            odd() = NONE
            """);
    }

    private static void without() {
        Edges.edge(27, "OFF WITHOUT a MARK: above, below.", """
            mark(0, 0, 10, 0) = 1
            mark(0, 3, 10, 0) = 2
            mark(1, 0, 10, 0) = 3
            mark(1, 3, 11, 0) = 4
            mark(11, 0, 10, 0) = 5
            mark(11, 3, 15, 0) = 6
            without(0, 0) = 4/1            # of 1 and 5
            without(11, 3) = 1/1           # of 0 and 1
            without(1, 3) = 5/1
            off(0) = 6/1                   # all is there still: 2, 1, 3
            has(11, 3) = 15
            count(1) = 6
            """);
        Edges.refused(27, "BAD;", ALL, """
            without(-1, 0, 0) = BAD
            without(12, 0, 0) = BAD
            without(LEAST, 0, 0) = BAD
            without(GREATEST, 0, 0) = BAD
            without(0, -1, 0) = BAD
            without(0, 4, 0) = BAD
            without(0, LEAST, 0) = BAD
            without(0, GREATEST, 0) = BAD
            without(0, 0, -1) = BAD
            without(0, 0, 2) = BAD
            without(-1, 4, 0) = BAD
            """);
        Edges.refused(27, "NOT: there is none.", "EMPTY", "without(0, 0, 0) = NOT\nwithout(11, 3, 1) = NOT\n");
        Edges.refused(27, "NOT: there is none.", "BUSY", """
            without(2, 0, 0) = NOT
            without(3, 0, 0) = NOT
            without(7, 3, 1) = NOT
            """);
        Edges.edge(27, "(As the least long.)", """
            without(12, 0, 0) = -9223372036854775806
            without(0, 0, 0) = -9223372036854775805
            """);
    }
}
