/** The boundaries that the terms name: how many, how large, from when on. */
final class TermsEdges {
    private TermsEdges() {
    }

    static void run() {
        lifeOfAnObject();
        constants();
        numbers();
        marks();
        times();
        hundred();
        asOf();
        hangTogether();
        bundles();
        fractions();
        sheets();
        findings();
    }

    private static void lifeOfAnObject() {
        String words = "An object is used for at most 512 calls after it has been made; "
            + "what later calls answer is free.";
        Edges.edge(0, words, """
            509 x has(11, 3) = NONE
            mark(11, 3, 77, 9) = 1         # the 510th
            has(11, 3) = 77
            count(1) = 1                   # the 512th
            """);
        Edges.edge(0, words, """
            100 x mark(0, 0, 50, 9)
            60 x type(65)
            348 x next(0) = NOT
            wipe() = 60
            price(3, 99) = 1
            price(3, 0) = 99
            mark(0, 0, 51, 9) = FULL       # the 512th
            """);
    }

    private static void constants() {
        String words = "public static final int NONE = -1, BAD = -2, NOT = -3, FULL = -4;";
        Edges.check(0, words, MarkedHands.NONE == -1, "NONE is " + MarkedHands.NONE);
        Edges.check(0, words, MarkedHands.BAD == -2, "BAD is " + MarkedHands.BAD);
        Edges.check(0, words, MarkedHands.NOT == -3, "NOT is " + MarkedHands.NOT);
        Edges.check(0, words, MarkedHands.FULL == -4, "FULL is " + MarkedHands.FULL);
    }

    private static void numbers() {
        Edges.edge(0, "======== 1 MARKERS are 0 to 3, SCRIPTS 0 to 11.", """
            mark(0, 0, 1, 0) = 1
            mark(0, 3, 2, 0) = 2
            mark(11, 0, 3, 0) = 3
            mark(11, 3, 4, 0) = 4
            mark(-1, 0, 5, 0) = BAD
            mark(12, 0, 5, 0) = BAD
            mark(0, -1, 5, 0) = BAD
            mark(0, 4, 5, 0) = BAD
            mark(-1, 4, 5, 0) = BAD        # not script 0 by marker 0
            mark(12, -1, 5, 0) = BAD       # not script 11 by marker 3
            mark(1, -4, 5, 0) = BAD
            mark(-1, 7, 5, 0) = BAD
            has(0, 0) = 1
            has(0, 3) = 2
            has(11, 0) = 3
            has(11, 3) = 4
            count(0) = 4
            count(7) = 2049
            """);
    }

    private static void marks() {
        Edges.edge(0, "A MARK (0 to 100) of a SCRIPT by a MARKER,", """
            mark(4, 2, 0, 0) = 1
            has(4, 2) = 0
            count(0) = 1                   # a mark of 0 is a mark
            worth(4) = 0/1
            mark(4, 2, 100, 0) = 2
            has(4, 2) = 100
            mark(4, 2, 101, 0) = BAD
            mark(4, 2, GREATEST, 0) = BAD
            has(4, 2) = 100
            count(1) = 2
            """);
        Edges.edge(0, "or that there is none (told as -1),", """
            mark(4, 2, 30, 0) = 1
            mark(4, 2, -1, 0) = 2
            has(4, 2) = NONE
            count(0) = 0
            mark(4, 2, 30, 0) = 3
            mark(4, 2, -2, 0) = BAD
            mark(4, 2, LEAST, 0) = BAD
            has(4, 2) = 30
            count(1) = 3
            """);
    }

    private static void times() {
        Edges.edge(0, "is told at a TIME (0 to 999;", """
            mark(1, 1, 5, -1) = BAD
            mark(1, 1, 5, LEAST) = BAD
            mark(1, 1, 5, 1000) = BAD
            mark(1, 1, 5, GREATEST) = BAD
            count(1) = 0
            mark(1, 1, 5, 0) = 1
            mark(1, 1, 6, 999) = 2
            mark(1, 1, 7, 1000) = BAD
            count(3) = 999
            asOf(0) = 999
            has(1, 1) = 5
            asOf(998) = 0
            has(1, 1) = 5
            asOf(999) = 998
            has(1, 1) = 6
            """);
        Edges.edge(0, "not less than the one told before):", """
            mark(1, 1, 5, 30) = 1
            mark(2, 2, 5, 30) = 2          # as much
            mark(2, 3, 5, 29) = BAD        # one less
            mark(2, 3, 5, 0) = BAD
            mark(2, 3, 5, 31) = 3
            mark(2, 3, 5, 30) = BAD
            count(3) = 31
            """);
        Edges.edge(0, "not less than the one told before):", """
            mark(1, 1, 5, 30) = 1
            mark(1, 4, 5, 50) = BAD        # what was refused was not told
            mark(1, 1, 101, 60) = BAD
            asOf(20) = 999                 # nor does it matter what is looked at
            mark(1, 1, 6, 30) = 2
            asOf(900) = 20
            mark(1, 1, 7, 30) = 3
            """);
    }

    private static void hundred() {
        Edges.edge(0, "100 at most.", """
            98 x mark(5, 1, 50, 3)
            mark(5, 1, 51, 3) = 99
            mark(5, 1, 52, 3) = 100
            mark(5, 1, 53, 3) = FULL
            mark(6, 2, 53, 900) = FULL
            count(1) = 100
            has(5, 1) = 52
            has(6, 2) = NONE
            """);
        Edges.edge(0, "100 at most.", """
            100 x mark(5, 1, -1, 3)        # that there is none was told too
            mark(5, 1, 50, 3) = FULL
            asOf(0) = 999                  # and is, where it is not looked at
            mark(5, 1, 50, 3) = FULL
            mark(5, 1, -1, 3) = FULL
            count(0) = 0
            """);
    }

    private static void asOf() {
        Edges.edge(0, "AS OF a TIME (999 at first)", """
            count(2) = 999
            mark(0, 0, 5, 999) = 1
            has(0, 0) = 5
            asOf(998) = 999
            has(0, 0) = NONE
            """);
        Edges.edge(0, "a SCRIPT has of a MARKER what was told last up to then.", """
            mark(3, 1, 10, 5) = 1
            mark(3, 1, 20, 7) = 2
            mark(3, 1, 30, 7) = 3
            mark(3, 1, -1, 9) = 4
            mark(3, 1, 40, 11) = 5
            asOf(4)
            has(3, 1) = NONE
            asOf(5)                        # up to then: then too
            has(3, 1) = 10
            asOf(6)
            has(3, 1) = 10
            asOf(7)                        # of two at one time the last
            has(3, 1) = 30
            asOf(8)
            has(3, 1) = 30
            asOf(9)                        # none is what was told last
            has(3, 1) = NONE
            asOf(10)
            has(3, 1) = NONE
            asOf(11)
            has(3, 1) = 40
            asOf(0)
            has(3, 1) = NONE
            """);
        Edges.edge(0, "N are MARKS that there are so.", """
            count(0) = 0
            mark(3, 1, 0, 5) = 1
            count(0) = 1
            mark(3, 1, 100, 6) = 2         # another in its place
            count(0) = 1
            mark(3, 1, -1, 7) = 3
            count(0) = 0
            mark(3, 2, -1, 7) = 4
            count(0) = 0
            asOf(6)
            count(0) = 1
            asOf(4)
            count(0) = 0
            """);
        Edges.edge(0, "N are MARKS that there are so.", everyMark() + "count(0) = 48\ncount(1) = 48\n");
    }

    /** Every script by every marker. */
    static String everyMark() {
        StringBuilder text = new StringBuilder();
        for (int s = 0; s < 12; s++) {
            for (int m = 0; m < 4; m++) {
                text.append("mark(" + s + ", " + m + ", " + (50 + s - m) + ", 1)\n");
            }
        }
        return text.toString();
    }

    /** Scripts 0 to 4 in a row with markers 3, 2, 1, 0 between them: nothing is farther apart. */
    static final String LONGEST = """
        mark(0, 3, 50, 1)
        mark(1, 3, 50, 1)
        mark(1, 2, 50, 1)
        mark(2, 2, 50, 1)
        mark(2, 1, 50, 1)
        mark(3, 1, 50, 1)
        mark(3, 0, 50, 1)
        mark(4, 0, 50, 1)
        """;

    private static void hangTogether() {
        String words = "They HANG TOGETHER: a MARKER and a SCRIPT that it marked, "
            + "and what hangs together with one of these.";
        Edges.edge(0, words, LONGEST + """
            bundle(0, 0) = 0               # over eight marks
            bundle(0, 4) = 0
            bundle(1, 3) = 0
            bundle(1, 0) = 0
            count(4) = 1
            mark(2, 1, -1, 2) = 9          # the middle one is gone
            bundle(0, 0) = 2
            bundle(0, 2) = 2
            bundle(1, 3) = 2
            bundle(1, 1) = 0
            bundle(0, 3) = 0
            bundle(0, 4) = 0
            count(4) = 2
            """);
        Edges.edge(0, words, """
            mark(0, 0, 50, 1) = 1
            mark(1, 1, 50, 1) = 2          # like marks at one time tie nothing
            bundle(0, 1) = 1
            count(4) = 2
            mark(2, 0, 50, 2) = 3
            mark(2, 1, 50, 3) = 4
            count(4) = 1
            asOf(2)
            count(4) = 2
            asOf(3)
            count(4) = 1
            """);
    }

    private static void bundles() {
        Edges.edge(0, "A BUNDLE is all that hangs together with some MARK;", """
            count(4) = 0
            bundle(1, 0) = NONE
            mark(0, 0, 0, 0) = 1
            mark(1, 1, 0, 0) = 2
            mark(2, 2, 0, 0) = 3
            count(4) = 3
            mark(11, 3, 0, 0) = 4
            count(4) = 4                   # more there cannot be
            mark(11, 3, -1, 0) = 5
            count(4) = 3
            bundle(0, 11) = NONE
            bundle(1, 3) = NONE
            """);
        Edges.edge(0, "its number is its least MARKER.", """
            mark(0, 3, 0, 0) = 1
            bundle(0, 0) = 3
            mark(0, 2, 0, 1) = 2
            bundle(0, 0) = 2
            bundle(1, 3) = 2
            mark(0, 0, 0, 2) = 3
            bundle(0, 0) = 0
            bundle(1, 2) = 0
            bundle(1, 3) = 0
            bundle(1, 1) = NONE
            mark(0, 0, -1, 3) = 4
            bundle(0, 0) = 2
            off(0, 0) = NOT
            off(2) = 0/1
            """);
    }

    private static void fractions() {
        String words = "FRACTIONS are told in lowest terms, above and below (0 by 1).";
        Edges.edge(0, words, """
            mark(0, 0, 50, 0) = 1
            mark(0, 1, 40, 0) = 2
            mark(1, 0, 40, 0) = 3
            mark(1, 1, 50, 0) = 4
            hard(0) = 0/1
            hard(1) = 0/1                  # 0 that came out so, not by 2
            worth(0) = 45/1
            fit(0, 0) = 5/1
            fit(0, 1) = -5/1               # what is below is never below 0
            drift(0) = -10/1
            drift(1) = 10/1
            off(0) = 20/1
            without(0, 0) = 0/1
            doubt(0, 1) = 1/1
            mark(1, 1, 51, 0) = 5
            hard(1) = -1/2
            worth(0) = 179/4
            fit(0, 0) = 21/4
            off(0) = 21/1
            """);
        Edges.edge(0, words, """
            mark(0, 0, 0, 0) = 1
            worth(0) = 0/1
            fit(0, 0) = 0/1
            hard(0) = 0/1
            off(0) = 0/1
            without(0, 0) = 0/1            # of nothing
            """);
    }

    private static void sheets() {
        Edges.edge(0, "SHEETS 0 .. 3 are LOST (at first)", """
            lose(-1) = BAD
            lose(0) = NULL
            lose(1) = NULL
            lose(2) = NULL
            lose(3) = NULL
            lose(4) = BAD
            sheet(0, 0, 0) = 0             # a row of no items is not LOST
            sheet(3, 2, 0) = 0
            lose(1) = NULL
            lose(0) = 0
            lose(3) = 0
            """);
        Edges.edge(0, "or a row of a TYPE: 0 bytes, 1 shorts, 2 ints,", """
            sheet(0, -1, 2) = BAD
            sheet(0, 3, 2) = BAD
            sheet(0, 0, 2) = 2
            sheet(1, 1, 2) = 2
            sheet(2, 2, 2) = 2
            put(0, 0, 0, 127) = 1
            put(0, 0, 1, 128) = 1
            get(0, 0, 0) = 127
            get(0, 0, 1) = -128
            put(1, 1, 0, 32767) = 1
            put(1, 1, 1, 32768) = 1
            get(1, 1, 0) = 32767
            get(1, 1, 1) = -32768
            put(2, 2, 0, GREATEST) = 1
            put(2, 2, 1, LEAST) = 1
            get(2, 2, 0) = 2147483647
            get(2, 2, 1) = -2147483648
            """);
        Edges.edge(0, "of 0 to 48 items", """
            sheet(0, 0, 0) = 0
            get(0, 0, 0) = LEAST
            count(8) = 2
            sheet(1, 1, 48) = 48
            put(1, 1, 47, 5) = 1
            get(1, 1, 47) = 5
            put(1, 1, 48, 5) = INDEX
            sheet(2, 2, 49) = BAD
            sheet(2, 2, GREATEST) = BAD
            sheet(2, 2, -1) = SIZE
            lose(2) = NULL
            lose(1) = 48
            """);
        Edges.edge(0, "(0 at first).", zeroAtFirst());
    }

    /** All items of a new row are 0, whatever stood there. */
    private static String zeroAtFirst() {
        StringBuilder text = new StringBuilder();
        for (int round = 0; round < 2; round++) {
            text.append("sheet(1, " + 2 * round + ", 48) = 48\n");
            for (int i = 0; i < 48; i++) {
                text.append("get(1, " + 2 * round + ", " + i + ") = 0\n");
                text.append("put(1, " + 2 * round + ", " + i + ", " + (i + 1) + ") = 1\n");
            }
        }
        return text + """
            lose(1) = 48
            sheet(1, 2, 2) = 2
            get(1, 2, 0) = 0
            get(1, 2, 1) = 0
            put(1, 2, 1, 5) = 1
            sheet(1, 2, 2) = 2             # over a row that is there
            get(1, 2, 1) = 0
            """;
    }

    private static void findings() {
        String words = "FINDINGS (answers -10 less the number; they change nothing but count() 8):";
        Edges.edge(0, words, """
            count(8) = 0
            lose(0) = -11
            count(8) = 1
            sheet(0, 0, 1) = 1
            put(0, 0, 1, 9) = -12
            count(8) = 2
            put(0, 1, 0, 9) = -13
            count(8) = 3
            sheet(1, 1, 1) = 1
            copy(0, 0, 1, 0, 1) = -14
            count(8) = 4
            sheet(0, 0, -1) = -15
            count(8) = 5
            get(0, 0, 0) = 0
            """);
        Edges.refused(0, words, "BUSY", """
            lose(3) = NULL
            put(0, 0, 4, 9) = INDEX
            put(0, 1, 0, 9) = CAST
            copy(0, 0, 1, 0, 1) = STORE
            sheet(0, 0, -1) = SIZE
            """);
        Edges.edge(0, "1 NULL: the SHEET is LOST;", "lose(2) = -11\nsheet(2, 0, 0) = 0\nlose(2) = 0\nlose(2) = -11\n");
        Edges.edge(0, "2 INDEX: there is no such item;", """
            sheet(2, 0, 2) = 2
            put(2, 0, -1, 1) = -12
            put(2, 0, 0, 1) = 1
            put(2, 0, 1, 1) = 1
            put(2, 0, 2, 1) = -12
            """);
        Edges.edge(0, "3 CAST: it has another TYPE;", """
            sheet(2, 1, 2) = 2
            put(2, 0, 0, 1) = -13
            put(2, 1, 0, 1) = 1
            put(2, 2, 0, 1) = -13
            """);
        Edges.edge(0, "4 STORE: unlike TYPES;", """
            sheet(1, 1, 2) = 2
            sheet(2, 2, 2) = 2
            copy(1, 0, 2, 0, 1) = -14
            copy(2, 0, 1, 0, 1) = -14
            sheet(2, 1, 2) = 2
            copy(1, 0, 2, 0, 1) = 1
            """);
        Edges.edge(0, "5 SIZE: below 0.", """
            sheet(2, 1, 0) = 0
            sheet(2, 1, -1) = -15
            sheet(2, 1, LEAST) = -15
            lose(2) = 0
            """);
    }
}
