/** The boundaries of part 2 and of promises 7 to 11: hard, worth, fit, off, rank. */
final class WorthEdges {
    private static final String ALL = "EMPTY BUSY FULL";

    /** Each marker is as hard as can be against the one ahead. */
    private static final String HARDEST = """
        mark(0, 0, 100, 0) = 1
        mark(0, 1, 0, 0) = 2
        mark(1, 1, 100, 0) = 3
        mark(1, 2, 0, 0) = 4
        mark(2, 2, 100, 0) = 5
        mark(2, 3, 0, 0) = 6
        """;

    private static final String MILDEST = """
        mark(0, 0, 0, 0) = 1
        mark(0, 1, 100, 0) = 2
        mark(1, 1, 0, 0) = 3
        mark(1, 2, 100, 0) = 4
        mark(2, 2, 0, 0) = 5
        mark(2, 3, 100, 0) = 6
        """;

    /** Two markers that could not disagree more. */
    private static final String CROSSED = """
        mark(0, 0, 100, 0) = 1
        mark(0, 1, 0, 0) = 2
        mark(1, 0, 0, 0) = 3
        mark(1, 1, 100, 0) = 4
        """;

    private WorthEdges() {
    }

    static void run() {
        leastSquares();
        fitAndOff();
        rankOfAScript();
        hard();
        worth();
        fit();
        off();
        rank();
    }

    private static void leastSquares() {
        Edges.edge(0, """
            ======== 2 In each BUNDLE MARKERS are HARD and SCRIPTS have WORTH by numbers such that the squares of MARK
            less (WORTH less HARD), of all its MARKS, are least together;""", """
            mark(0, 0, 10, 0) = 1
            worth(0) = 10/1                # one mark alone is the worth
            mark(0, 1, 20, 0) = 2
            worth(0) = 10/1                # two hands on one script: all is put on the hand
            hard(1) = -10/1
            mark(1, 0, 30, 0) = 3
            mark(1, 1, 31, 0) = 4
            hard(1) = -11/2                # the mean of -10 and -1
            worth(0) = 49/4
            worth(1) = 111/4
            mark(2, 1, 7, 0) = 5           # one more by one hand alone changes nothing of this
            hard(1) = -11/2
            worth(2) = 3/2
            mark(5, 2, 90, 0) = 6          # nor does another bundle
            mark(5, 3, 10, 0) = 7
            hard(1) = -11/2
            worth(5) = 90/1
            """);
        Edges.edge(0, "its least MARKER being HARD by 0. (There is one such choice.)", """
            mark(0, 3, 40, 0) = 1
            hard(3) = 0/1                  # alone it is the least
            mark(0, 2, 50, 0) = 2
            hard(2) = 0/1
            hard(3) = 10/1
            worth(0) = 50/1
            mark(0, 1, 70, 0) = 3
            hard(1) = 0/1
            hard(2) = 20/1
            hard(3) = 30/1
            mark(4, 0, 1, 0) = 4           # of another bundle
            hard(1) = 0/1
            hard(0) = 0/1
            mark(4, 3, 1, 0) = 5           # of the same
            hard(0) = 0/1
            hard(3) = 0/1
            hard(1) = -30/1
            worth(0) = 40/1
            """);
    }

    private static void fitAndOff() {
        Edges.edge(0, "FIT: of a MARK, MARK less (WORTH less HARD).", CROSSED + """
            hard(1) = 0/1
            worth(0) = 50/1
            fit(0, 0) = 50/1
            fit(0, 1) = -50/1
            fit(1, 0) = -50/1
            fit(1, 1) = 50/1
            """);
        Edges.edge(0, "FIT: of a MARK, MARK less (WORTH less HARD).", HARDEST + """
            fit(0, 0) = 0/1                # without a ring all fits
            fit(0, 1) = 0/1
            fit(2, 2) = 0/1
            fit(2, 3) = 0/1
            """);
        Edges.edge(0, "OFF: all amounts of FITS of a BUNDLE together.", CROSSED + """
            off(0) = 200/1                 # amounts, so they do not take each other away
            mark(2, 2, 100, 0) = 5
            off(2) = 0/1
            off(0) = 200/1
            """);
    }

    private static void rankOfAScript() {
        Edges.edge(0, "RANK of a SCRIPT: 1 and how many SCRIPTS of its BUNDLE have more WORTH.", """
            mark(0, 0, 50, 0) = 1
            rank(0, 0) = 1                 # alone
            mark(1, 0, 50, 0) = 2
            rank(0, 0) = 1                 # like ones are not more
            rank(1, 0) = 1
            mark(2, 0, 51, 0) = 3
            rank(0, 0) = 2
            rank(1, 0) = 2
            rank(2, 0) = 1
            mark(3, 1, 100, 0) = 4         # of another bundle
            rank(0, 0) = 2
            rank(3, 0) = 1
            """);
        Edges.edge(0, "BY HAND: likewise by the mean of its MARKS, among these.", """
            mark(0, 0, 50, 0) = 1
            mark(0, 1, 49, 0) = 2
            mark(1, 0, 49, 0) = 3
            mark(1, 1, 50, 0) = 4
            rank(0, 1) = 1                 # like means
            rank(1, 1) = 1
            mark(2, 0, 50, 0) = 5          # 50 by one hand is more than 99 by two
            rank(2, 1) = 1
            rank(0, 1) = 2
            mark(3, 2, 100, 0) = 6
            rank(2, 1) = 1
            rank(3, 1) = 1
            """);
    }

    private static void hard() {
        Edges.edge(7, "HARD of a MARKER: above, below.", HARDEST + """
            hard(0) = 0/1
            hard(1) = 100/1
            hard(2) = 200/1
            hard(3) = 300/1
            """);
        Edges.edge(7, "HARD of a MARKER: above, below.", MILDEST + """
            hard(1) = -100/1
            hard(2) = -200/1
            hard(3) = -300/1
            """);
        Edges.refused(7, "BAD;", ALL, """
            hard(-1, 0) = BAD
            hard(4, 0) = BAD
            hard(LEAST, 0) = BAD
            hard(GREATEST, 1) = BAD
            hard(0, -1) = BAD
            hard(0, 2) = BAD
            hard(3, LEAST) = BAD
            hard(3, GREATEST) = BAD
            """);
        Edges.refused(7, "NOT: it has no MARK.", "EMPTY", "hard(0, 0) = NOT\nhard(0, 1) = NOT\nhard(3, 0) = NOT\n");
        Edges.refused(7, "NOT: it has no MARK.", "BUSY", "hard(3, 0) = NOT\nhard(3, 1) = NOT\n");
        Edges.edge(7, "(As the least long.)", """
            hard(4, 0) = -9223372036854775806
            hard(0, 0) = -9223372036854775805
            """);
    }

    private static void worth() {
        Edges.edge(8, "WORTH of a SCRIPT: above, below.", HARDEST + """
            mark(11, 3, 100, 0) = 7
            worth(11) = 400/1              # the most there can be
            worth(0) = 100/1
            worth(2) = 300/1
            """);
        Edges.edge(8, "WORTH of a SCRIPT: above, below.", MILDEST + """
            mark(11, 3, 0, 0) = 7
            worth(11) = -300/1             # and the least
            worth(0) = 0/1
            """);
        Edges.refused(8, "BAD;", ALL, """
            worth(-1, 0) = BAD
            worth(12, 0) = BAD
            worth(LEAST, 0) = BAD
            worth(GREATEST, 1) = BAD
            worth(0, -1) = BAD
            worth(0, 2) = BAD
            worth(11, LEAST) = BAD
            worth(11, GREATEST) = BAD
            """);
        Edges.refused(8, "NOT: it has no MARK.", "EMPTY", "worth(0, 0) = NOT\nworth(0, 1) = NOT\nworth(11, 0) = NOT\n");
        Edges.refused(8, "NOT: it has no MARK.", "BUSY", "worth(3, 0) = NOT\nworth(4, 1) = NOT\nworth(11, 0) = NOT\n");
        Edges.edge(8, "(As the least long.)", """
            worth(12, 0) = -9223372036854775806
            worth(0, 0) = -9223372036854775805
            """);
    }

    private static void fit() {
        Edges.edge(9, "FIT of a MARK: above, below.", CROSSED + """
            mark(11, 1, 3, 0) = 5
            fit(11, 1) = 0/1
            fit(0, 0) = 50/1
            fit(1, 0) = -50/1
            mark(1, 1, 99, 0) = 6
            fit(0, 0) = 199/4
            fit(1, 0) = -199/4
            """);
        Edges.refused(9, "BAD;", ALL, """
            fit(-1, 0, 0) = BAD
            fit(12, 0, 0) = BAD
            fit(LEAST, 0, 0) = BAD
            fit(GREATEST, 0, 0) = BAD
            fit(0, -1, 0) = BAD
            fit(0, 4, 0) = BAD
            fit(0, LEAST, 0) = BAD
            fit(0, GREATEST, 0) = BAD
            fit(0, 0, -1) = BAD
            fit(0, 0, 2) = BAD
            fit(-1, 4, 0) = BAD
            """);
        Edges.refused(9, "NOT: there is none.", "EMPTY", "fit(0, 0, 0) = NOT\nfit(11, 3, 1) = NOT\n");
        Edges.refused(9, "NOT: there is none.", "BUSY", """
            fit(2, 0, 0) = NOT             # both have marks, but not this one
            fit(3, 0, 0) = NOT             # told and taken back
            fit(7, 3, 1) = NOT             # told later
            """);
        Edges.edge(9, "(As the least long.)", """
            fit(0, 4, 0) = -9223372036854775806
            fit(0, 0, 0) = -9223372036854775805
            """);
    }

    private static void off() {
        Edges.edge(10, "OFF of a BUNDLE: above, below.", """
            mark(0, 3, 100, 0) = 1
            off(3) = 0/1                   # of one mark
            mark(0, 2, 0, 0) = 2
            off(2) = 0/1
            mark(1, 2, 1, 0) = 3
            mark(1, 3, 0, 0) = 4
            off(2) = 101/1                 # differences of -100 and 1: each of four is off by 101 by 4
            """);
        Edges.refused(10, "BAD;", ALL, """
            off(-1, 0) = BAD
            off(4, 0) = BAD
            off(LEAST, 0) = BAD
            off(GREATEST, 0) = BAD
            off(0, -1) = BAD
            off(0, 2) = BAD
            off(3, LEAST) = BAD
            off(3, GREATEST) = BAD
            """);
        Edges.refused(10, "NOT: no such BUNDLE.", "EMPTY", "off(0, 0) = NOT\noff(3, 1) = NOT\n");
        Edges.refused(10, "NOT: no such BUNDLE.", "BUSY", """
            off(1, 0) = NOT                # marker 1 is of bundle 0
            off(3, 0) = NOT                # marker 3 is of none
            off(3, 1) = NOT
            """);
        Edges.refused(10, "NOT: no such BUNDLE.", "FULL", "off(1, 0) = NOT\noff(2, 0) = NOT\noff(3, 1) = NOT\n");
        Edges.edge(10, "(As the least long.)", """
            off(4, 0) = -9223372036854775806
            off(0, 0) = -9223372036854775805
            """);
    }

    private static void rank() {
        StringBuilder twelve = new StringBuilder();
        for (int s = 0; s < 12; s++) {
            twelve.append("mark(" + s + ", 3, " + (40 + s) + ", 0)\n");
        }
        StringBuilder ranks = new StringBuilder();
        for (int s = 0; s < 12; s++) {
            ranks.append("rank(" + s + ", 0) = " + (12 - s) + "\nrank(" + s + ", 1) = " + (12 - s) + "\n");
        }
        Edges.edge(11, "RANK of a SCRIPT (how = 0), BY HAND (1).", twelve.toString() + ranks);
        Edges.edge(11, "RANK of a SCRIPT (how = 0), BY HAND (1).", """
            mark(0, 0, 60, 0) = 1
            mark(0, 1, 40, 0) = 2
            mark(1, 1, 45, 0) = 3          # worth 65 by a hard hand
            mark(2, 0, 62, 0) = 4
            rank(1, 0) = 1
            rank(2, 0) = 2
            rank(0, 0) = 3                 # worth 60
            rank(1, 1) = 3                 # 45
            rank(2, 1) = 1                 # 62
            rank(0, 1) = 2                 # 50
            """);
        Edges.refused(11, "BAD;", ALL, """
            rank(-1, 0) = BAD
            rank(12, 0) = BAD
            rank(LEAST, 0) = BAD
            rank(GREATEST, 1) = BAD
            rank(0, -1) = BAD
            rank(0, 2) = BAD
            rank(11, LEAST) = BAD
            rank(11, GREATEST) = BAD
            """);
        Edges.refused(11, "NOT.", "EMPTY", "rank(0, 0) = NOT\nrank(11, 1) = NOT\n");
        Edges.refused(11, "NOT.", "BUSY", "rank(3, 0) = NOT\nrank(4, 1) = NOT\nrank(11, 0) = NOT\n");
    }
}
