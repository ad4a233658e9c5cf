/** The boundaries of promises 28 to 35: sheet, lose, put, get, copy, write, count, digest. */
final class SheetsEdges {
    private static final String ALL = "EMPTY BUSY FULL";

    /** Calls that only ask, answered or refused; in no state is one of them a finding. */
    private static final String ASKED = """
        has(0, 0)
        bundle(0, 0)
        bundle(1, 2)
        hard(1, 0)
        worth(0, 1)
        fit(0, 0, 0)
        off(0, 0)
        rank(1, 1)
        fault()
        grade(0)
        hangs(0)
        misses(0, 5)
        doubt(0, 1, 0)
        worst(0)
        next(0)
        bridge(0, 0)
        tied(-1)
        tied(0)
        drift(0, 0)
        agree(0, 1, 1)
        odd()
        without(0, 0, 0)
        count(0)
        count(8)
        digest()
        """;

    private SheetsEdges() {
    }

    static void run() {
        sheet();
        lose();
        put();
        putRefusals();
        get();
        getRefusals();
        copy();
        copyWithin();
        copyRefusals();
        write();
        writeRefusals();
        count();
        countOfEach();
        digest();
    }

    private static void sheet() {
        Edges.edge(28, "A SHEET is a new row of a TYPE with n items: n.", """
            sheet(0, 0, 0) = 0
            sheet(3, 2, 48) = 48
            sheet(1, 1, 1) = 1
            put(1, 1, 0, 7) = 1
            sheet(1, 1, 1) = 1             # new, over one that was there
            get(1, 1, 0) = 0
            sheet(1, 0, 47) = 47           # longer, of another type
            put(1, 0, 46, 7) = 1
            put(1, 0, 47, 7) = INDEX
            put(1, 1, 0, 7) = CAST
            sheet(1, 2, 0) = 0             # shorter
            put(1, 2, 0, 7) = INDEX
            lose(3) = 48                   # the others stay
            lose(0) = 0
            """);
        Edges.refused(28, "BAD: SHEET, TYPE, above 48;", ALL, """
            sheet(-1, 0, 5) = BAD
            sheet(4, 0, 5) = BAD
            sheet(LEAST, 0, 5) = BAD
            sheet(GREATEST, 0, 5) = BAD
            sheet(0, -1, 5) = BAD
            sheet(0, 3, 5) = BAD
            sheet(0, LEAST, 5) = BAD
            sheet(0, GREATEST, 5) = BAD
            sheet(0, 0, 49) = BAD
            sheet(3, 2, GREATEST) = BAD
            sheet(4, 0, -1) = BAD          # ahead of SIZE
            sheet(0, 3, -1) = BAD
            """);
        Edges.refused(28, "SIZE.", ALL, "sheet(0, 0, -1) = SIZE\nsheet(3, 2, LEAST) = SIZE\nsheet(1, 1, -48) = SIZE\n");
    }

    private static void lose() {
        Edges.edge(29, "It is LOST: how many items it had.", """
            sheet(0, 0, 0) = 0
            sheet(3, 2, 48) = 48
            lose(0) = 0
            lose(3) = 48
            lose(0) = NULL
            lose(3) = NULL
            sheet(3, 2, 1) = 1             # it can be a row again
            lose(3) = 1
            put(3, 2, 0, 1) = NULL
            """);
        Edges.refused(29, "BAD;", ALL, "lose(-1) = BAD\nlose(4) = BAD\nlose(LEAST) = BAD\nlose(GREATEST) = BAD\n");
        Edges.refused(29, "NULL.", "EMPTY", "lose(0) = NULL\nlose(1) = NULL\nlose(2) = NULL\nlose(3) = NULL\n");
        Edges.refused(29, "NULL.", "BUSY", "lose(3) = NULL\n");
    }

    private static void put() {
        Edges.edge(30, "Item i, treated as of a TYPE, becomes v (the lowest bits that it has): 1.", """
            sheet(0, 0, 48) = 48
            put(0, 0, 0, 127) = 1
            get(0, 0, 0) = 127
            put(0, 0, 0, 128) = 1          # a byte turns over
            get(0, 0, 0) = -128
            put(0, 0, 0, -129) = 1
            get(0, 0, 0) = 127
            put(0, 0, 0, -128) = 1
            get(0, 0, 0) = -128
            put(0, 0, 0, 255) = 1
            get(0, 0, 0) = -1
            put(0, 0, 0, 256) = 1
            get(0, 0, 0) = 0
            put(0, 0, 0, GREATEST) = 1
            get(0, 0, 0) = -1
            put(0, 0, 0, LEAST) = 1
            get(0, 0, 0) = 0
            put(0, 0, 47, 5) = 1           # the last item
            get(0, 0, 47) = 5
            get(0, 0, 46) = 0
            """);
        Edges.edge(30, "Item i, treated as of a TYPE, becomes v (the lowest bits that it has): 1.", """
            sheet(1, 1, 2) = 2
            put(1, 1, 0, 32767) = 1
            get(1, 1, 0) = 32767
            put(1, 1, 0, 32768) = 1        # a short turns over
            get(1, 1, 0) = -32768
            put(1, 1, 0, -32769) = 1
            get(1, 1, 0) = 32767
            put(1, 1, 0, 65535) = 1
            get(1, 1, 0) = -1
            put(1, 1, 0, 65536) = 1
            get(1, 1, 0) = 0
            put(1, 1, 0, 128) = 1
            get(1, 1, 0) = 128
            put(1, 1, 0, GREATEST) = 1
            get(1, 1, 0) = -1
            put(1, 1, 0, LEAST) = 1
            get(1, 1, 0) = 0
            sheet(2, 2, 1) = 1
            put(2, 2, 0, GREATEST) = 1     # an int has all of them
            get(2, 2, 0) = 2147483647
            put(2, 2, 0, LEAST) = 1
            get(2, 2, 0) = -2147483648
            put(2, 2, 0, 65536) = 1
            get(2, 2, 0) = 65536
            """);
    }

    private static void putRefusals() {
        Edges.refused(30, "BAD;", ALL, """
            put(-1, 0, 0, 5) = BAD
            put(4, 0, 0, 5) = BAD
            put(LEAST, 0, 0, 5) = BAD
            put(GREATEST, 0, 0, 5) = BAD
            put(0, -1, 0, 5) = BAD
            put(0, 3, 0, 5) = BAD          # ahead of NULL and CAST
            put(0, LEAST, 0, 5) = BAD
            put(0, GREATEST, 99, 5) = BAD
            """);
        Edges.refused(30, "NULL;", "EMPTY", "put(0, 0, 0, 5) = NULL\nput(3, 2, -1, 5) = NULL\n");
        Edges.refused(30, "NULL;", "BUSY", "put(3, 0, 0, 5) = NULL\nput(3, 1, 48, 5) = NULL\n");
        Edges.refused(30, "CAST;", "BUSY", """
            put(0, 1, 0, 5) = CAST
            put(0, 2, 0, 5) = CAST
            put(1, 0, 0, 5) = CAST
            put(1, 2, 0, 5) = CAST
            put(2, 0, 0, 5) = CAST
            put(2, 1, 0, 5) = CAST
            put(0, 1, 4, 5) = CAST         # ahead of INDEX
            put(0, 1, -1, 5) = CAST
            """);
        Edges.refused(30, "INDEX.", "BUSY", """
            put(0, 0, -1, 5) = INDEX
            put(0, 0, 4, 5) = INDEX
            put(1, 1, 9, 5) = INDEX
            put(2, 2, 3, 5) = INDEX
            put(0, 0, LEAST, 5) = INDEX
            put(0, 0, GREATEST, 5) = INDEX
            """);
        Edges.refused(30, "INDEX.", "FULL", """
            put(0, 0, 48, 5) = INDEX
            put(3, 0, -1, 5) = INDEX
            put(2, 2, 48, 5) = INDEX
            """);
    }

    private static void get() {
        Edges.edge(31, "Item i of it.", """
            sheet(3, 0, 48) = 48
            put(3, 0, 0, 1) = 1
            put(3, 0, 47, -1) = 1
            get(3, 0, 0) = 1
            get(3, 0, 1) = 0
            get(3, 0, 46) = 0
            get(3, 0, 47) = -1
            sheet(2, 2, 1) = 1
            put(2, 2, 0, LEAST) = 1
            get(2, 2, 0) = LEAST           # an item that is the least int is no finding
            count(8) = 0
            """);
    }

    private static void getRefusals() {
        Edges.refused(31, "BAD: the least int;", ALL, """
            get(-1, 0, 0) = LEAST
            get(4, 0, 0) = LEAST
            get(LEAST, 0, 0) = LEAST
            get(GREATEST, 0, 0) = LEAST
            get(0, -1, 0) = LEAST
            get(0, 3, 0) = LEAST
            get(0, LEAST, 0) = LEAST
            get(0, GREATEST, 0) = LEAST
            """);
        Edges.refused(31, "so are NULL, CAST, INDEX (count() 8 tells).", "EMPTY", "get(0, 0, 0) = LEAST finding 1\n");
        Edges.refused(31, "so are NULL, CAST, INDEX (count() 8 tells).", "BUSY", """
            get(3, 0, 0) = LEAST finding 1
            get(3, 2, -1) = LEAST finding 1
            get(0, 1, 0) = LEAST finding 3
            get(0, 2, 0) = LEAST finding 3
            get(2, 1, 3) = LEAST finding 3
            get(0, 0, -1) = LEAST finding 2
            get(0, 0, 4) = LEAST finding 2
            get(1, 1, 9) = LEAST finding 2
            get(0, 0, LEAST) = LEAST finding 2
            get(0, 0, GREATEST) = LEAST finding 2
            """);
        Edges.refused(31, "so are NULL, CAST, INDEX (count() 8 tells).", "FULL", """
            get(0, 0, 48) = LEAST finding 2
            get(3, 0, -1) = LEAST finding 2
            get(3, 1, 48) = LEAST finding 3
            """);
    }

    /** Items 10, 11, 12 .. */
    private static String counted(int s, int type, int n) {
        StringBuilder text = new StringBuilder("sheet(" + s + ", " + type + ", " + n + ") = " + n + "\n");
        for (int i = 0; i < n; i++) {
            text.append("put(" + s + ", " + type + ", " + i + ", " + (10 + i) + ") = 1\n");
        }
        return text.toString();
    }

    private static void copy() {
        String words = "n items of SHEET s, from i on, come to SHEET t (perhaps s, as they were), from j on: 1.";
        Edges.edge(32, words, counted(0, 0, 4) + """
            sheet(3, 0, 6) = 6
            copy(0, 0, 3, 2, 4) = 1        # all of it, up to the end
            get(3, 0, 1) = 0
            get(3, 0, 2) = 10
            get(3, 0, 5) = 13
            copy(0, 3, 3, 0, 1) = 1        # the last to the first
            get(3, 0, 0) = 13
            get(3, 0, 1) = 0
            copy(0, 4, 3, 6, 0) = 1        # nothing, from behind the last
            copy(0, 0, 3, 0, 0) = 1
            get(3, 0, 0) = 13
            get(0, 0, 0) = 10
            get(0, 0, 3) = 13
            """);
        Edges.edge(32, words, counted(1, 2, 48) + """
            sheet(2, 2, 48) = 48
            copy(1, 0, 2, 0, 48) = 1
            get(2, 2, 0) = 10
            get(2, 2, 47) = 57
            copy(1, 47, 2, 0, 1) = 1
            get(2, 2, 0) = 57
            get(2, 2, 1) = 11
            sheet(0, 2, 0) = 0
            copy(0, 0, 0, 0, 0) = 1        # between rows of no items
            copy(0, 0, 1, 48, 0) = 1
            """);
    }

    private static void copyWithin() {
        String words = "(perhaps s, as they were)";
        Edges.edge(32, words, counted(2, 1, 5) + """
            copy(2, 0, 2, 1, 4) = 1        # up by one: each as it was
            get(2, 1, 0) = 10
            get(2, 1, 1) = 10
            get(2, 1, 2) = 11
            get(2, 1, 3) = 12
            get(2, 1, 4) = 13
            """);
        Edges.edge(32, words, counted(2, 1, 5) + """
            copy(2, 1, 2, 0, 4) = 1        # down by one
            get(2, 1, 0) = 11
            get(2, 1, 1) = 12
            get(2, 1, 2) = 13
            get(2, 1, 3) = 14
            get(2, 1, 4) = 14
            """);
        Edges.edge(32, words, counted(2, 1, 5) + """
            copy(2, 0, 2, 0, 5) = 1        # on itself
            get(2, 1, 0) = 10
            get(2, 1, 4) = 14
            """);
    }

    private static void copyRefusals() {
        Edges.refused(32, "BAD: the SHEETS;", ALL, """
            copy(-1, 0, 0, 0, 0) = BAD
            copy(4, 0, 0, 0, 0) = BAD
            copy(LEAST, 0, 0, 0, 0) = BAD
            copy(GREATEST, 0, 0, 0, 0) = BAD
            copy(0, 0, -1, 0, 0) = BAD
            copy(0, 0, 4, 0, 0) = BAD      # a LOST s too: ahead of NULL
            copy(0, 0, LEAST, 0, 0) = BAD
            copy(0, 0, GREATEST, -1, 99) = BAD
            """);
        Edges.refused(32, "NULL: s, t;", "EMPTY", "copy(0, 0, 1, 0, 0) = NULL\ncopy(3, 0, 3, 0, 0) = NULL\n");
        Edges.refused(32, "NULL: s, t;", "BUSY", """
            copy(3, 0, 0, 0, 1) = NULL
            copy(0, 0, 3, 0, 1) = NULL
            copy(3, -1, 3, -1, -1) = NULL  # ahead of INDEX
            """);
        Edges.refused(32, "STORE;", "BUSY", """
            copy(0, 0, 1, 0, 1) = STORE
            copy(1, 0, 0, 0, 1) = STORE
            copy(1, 0, 2, 0, 1) = STORE
            copy(0, 0, 2, 0, 0) = STORE    # of no items too
            copy(0, -1, 2, 9, 50) = STORE  # ahead of INDEX
            """);
        Edges.refused(32, "INDEX: below 0, not so many.", "BUSY", """
            copy(1, -1, 1, 0, 1) = INDEX
            copy(1, 0, 1, -1, 1) = INDEX
            copy(1, 0, 1, 0, -1) = INDEX
            copy(1, 0, 1, 0, 10) = INDEX   # of 9
            copy(1, 1, 1, 0, 9) = INDEX
            copy(1, 0, 1, 1, 9) = INDEX
            copy(1, 9, 1, 0, 1) = INDEX
            copy(1, 0, 1, 9, 1) = INDEX
            copy(1, 10, 1, 0, 0) = INDEX
            copy(1, 0, 1, 10, 0) = INDEX
            copy(1, LEAST, 1, 0, 1) = INDEX
            copy(1, 0, 1, LEAST, 1) = INDEX
            copy(1, 0, 1, 0, LEAST) = INDEX
            copy(1, GREATEST, 1, 0, 1) = INDEX       # a sum that would turn over
            copy(1, 0, 1, GREATEST, 1) = INDEX
            copy(1, 1, 1, 1, GREATEST) = INDEX
            copy(1, GREATEST, 1, GREATEST, GREATEST) = INDEX
            copy(1, LEAST, 1, LEAST, LEAST) = INDEX
            """);
        Edges.refused(32, "INDEX: below 0, not so many.", "FULL", """
            copy(0, 0, 3, 0, 49) = INDEX
            copy(0, 1, 3, 0, 48) = INDEX
            copy(0, 0, 3, 1, 48) = INDEX
            """);
        Edges.edge(32, "INDEX: below 0, not so many.", """
            sheet(0, 0, 4) = 4
            sheet(1, 0, 2) = 2
            put(0, 0, 0, 5) = 1
            copy(0, 0, 1, 0, 3) = INDEX    # t has not so many
            copy(1, 0, 0, 0, 3) = INDEX    # s has not
            get(1, 0, 0) = 0               # no part of it came
            get(0, 0, 0) = 5
            copy(0, 0, 1, 0, 2) = 1
            """);
    }

    private static void write() {
        String words = "MARKS of a MARKER by SCRIPTS (NONE: -1) come to a SHEET from item 0 on, "
            + "as many as there are items and SCRIPTS: how many.";
        StringBuilder marks = new StringBuilder("mark(0, 3, 100, 0)\nmark(10, 3, 0, 0)\nmark(11, 3, 7, 0)\n");
        Edges.edge(33, words, marks + """
            sheet(0, 0, 0) = 0
            write(3, 0) = 0
            sheet(0, 0, 1) = 1
            write(3, 0) = 1
            get(0, 0, 0) = 100
            sheet(0, 1, 11) = 11
            write(3, 0) = 11
            get(0, 1, 9) = -1
            get(0, 1, 10) = 0              # a mark of 0, not NONE
            sheet(0, 2, 12) = 12
            write(3, 0) = 12
            get(0, 2, 1) = -1
            get(0, 2, 11) = 7
            sheet(0, 0, 13) = 13
            put(0, 0, 12, 9) = 1
            write(3, 0) = 12
            get(0, 0, 11) = 7
            get(0, 0, 12) = 9              # behind the scripts it stays
            sheet(3, 0, 48) = 48
            put(3, 0, 12, 9) = 1
            write(0, 3) = 12               # marker 0 has no marks
            get(3, 0, 0) = -1
            get(3, 0, 11) = -1
            get(3, 0, 12) = 9
            """);
        Edges.edge(33, words, """
            mark(0, 0, 50, 5) = 1
            sheet(0, 0, 2) = 2
            asOf(4)
            write(0, 0) = 2
            get(0, 0, 0) = -1
            asOf(5)
            write(0, 0) = 2
            get(0, 0, 0) = 50
            get(0, 0, 1) = -1
            """);
    }

    private static void writeRefusals() {
        Edges.refused(33, "BAD;", ALL, """
            write(-1, 0) = BAD
            write(4, 0) = BAD
            write(LEAST, 0) = BAD
            write(GREATEST, 0) = BAD
            write(0, -1) = BAD
            write(0, 4) = BAD
            write(0, LEAST) = BAD
            write(0, GREATEST) = BAD
            write(4, 3) = BAD              # ahead of NULL
            """);
        Edges.refused(33, "NULL.", "EMPTY", "write(0, 0) = NULL\nwrite(3, 3) = NULL\n");
        Edges.refused(33, "NULL.", "BUSY", "write(0, 3) = NULL\nwrite(3, 3) = NULL\n");
    }

    private static void count() {
        String words = "0 N, 1 how many were told, 2 AS OF, 3 the TIME told last (0 at first), 4 BUNDLES, "
            + "5 bytes of GRADES, 6 BRIDGES, 7 SCRIPTS that have MARKS (bits), "
            + "8 the number of the latest FINDING (0 before any).";
        Edges.edge(34, words, """
            count(0) = 0
            count(1) = 0
            count(2) = 999
            count(3) = 0
            count(4) = 0
            count(5) = 0
            count(6) = 0
            count(7) = 0
            count(8) = 0
            """);
        Edges.edge(34, words, TermsEdges.everyMark() + "52 x mark(11, 3, 50, 999)\n60 x type(65)\n" + """
            lose(0) = NULL
            count(0) = 48
            count(1) = 100
            count(2) = 999
            count(3) = 999
            count(4) = 1
            count(5) = 60
            count(6) = 0
            count(7) = 4095
            count(8) = 1
            """);
        Edges.refused(34, "BAD.", ALL, "count(-1) = BAD\ncount(9) = BAD\ncount(LEAST) = BAD\ncount(GREATEST) = BAD\n");
    }

    private static void countOfEach() {
        Edges.edge(34, "3 the TIME told last (0 at first),", """
            count(3) = 0
            mark(0, 0, 1, 0) = 1
            count(3) = 0
            mark(0, 0, 1, 999) = 2
            count(3) = 999
            asOf(5)
            count(3) = 999                 # told is told, whatever is looked at
            """);
        Edges.edge(34, "4 BUNDLES,", """
            mark(0, 0, 1, 0) = 1
            mark(1, 1, 1, 0) = 2
            mark(2, 2, 1, 0) = 3
            mark(3, 3, 1, 0) = 4
            count(4) = 4
            """);
        Edges.edge(34, "6 BRIDGES,", mostBridges() + "count(0) = 15\ncount(6) = 15   # more there cannot be\n");
        Edges.edge(34, "7 SCRIPTS that have MARKS (bits),", """
            mark(11, 2, 0, 0) = 1
            count(7) = 2048
            mark(0, 2, 0, 0) = 2
            count(7) = 2049
            mark(0, 3, 0, 0) = 3           # by two hands: one bit still
            count(7) = 2049
            mark(11, 2, -1, 0) = 4
            count(7) = 1
            """);
        Edges.edge(34, "8 the number of the latest FINDING (0 before any).", """
            mark(12, 0, 0, 0) = BAD        # no FINDING
            hard(0, 0) = NOT
            count(8) = 0
            sheet(0, 0, -1) = SIZE
            count(8) = 5
            lose(0) = NULL
            count(8) = 1                   # the latest, not the greatest
            mark(12, 0, 0, 0) = BAD
            sheet(0, 0, 0) = 0
            count(8) = 1
            """);
        Edges.refused(34, "8 the number of the latest FINDING (0 before any).", ALL, ASKED);
    }

    /** Without a ring: script 0 by all markers, each other script by one. */
    private static String mostBridges() {
        StringBuilder text = new StringBuilder();
        for (int m = 0; m < 4; m++) {
            text.append("mark(0, " + m + ", 50, 0)\n");
        }
        for (int s = 1; s < 12; s++) {
            text.append("mark(" + s + ", " + s % 4 + ", 50, 0)\n");
        }
        return text.toString();
    }

    private static void digest() {
        String words = """
            h is 17; h becomes 31 h and each of: count() 0 to 7; of SCRIPTS their MARKS by MARKERS, worth() 0, 1
            (as it is told); of MARKERS hard() 0, 1 (as it is told); worst() 0 to 3 (as it is told); fault(); odd();
            as longs that wrap.""";
        MarkedHands hands = new MarkedHands();
        Edges.check(35, words, hands.digest() == digestOf(hands), "of nothing");
        hands.mark(0, 0, 0, 0);
        Edges.check(35, words, hands.digest() == digestOf(hands), "of one mark");
        hands.mark(0, 3, 100, 999);
        hands.mark(11, 3, 50, 999);
        hands.type(65);
        Edges.check(35, words, hands.digest() == digestOf(hands), "of three marks");
        hands.asOf(0);
        Edges.check(35, words, hands.digest() == digestOf(hands), "as of 0");
        Edges.check(35, words, digestOfFull(), "of a full object");
        countOfFindings(words);
    }

    private static boolean digestOfFull() {
        MarkedHands hands = new MarkedHands();
        for (int i = 0; i < 100; i++) {
            hands.mark(i / 4 % 12, i % 4, i * 37 % 101, i);
        }
        for (int i = 0; i < 60; i++) {
            hands.type(70);
        }
        return hands.digest() == digestOf(hands);
    }

    /** count() 8, sheets and prices are not in it. */
    private static void countOfFindings(String words) {
        MarkedHands hands = new MarkedHands();
        long ahead = hands.digest();
        hands.lose(0);
        hands.sheet(1, 1, 5);
        hands.price(2, 50);
        Edges.check(35, words, hands.count(8) == 1 && hands.digest() == ahead, "behind a finding");
    }

    /** What the other calls answer, put together anew. */
    private static long digestOf(MarkedHands hands) {
        long h = 17;
        for (int what = 0; what < 8; what++) {
            h = 31 * h + hands.count(what);
        }
        for (int s = 0; s < 12; s++) {
            for (int m = 0; m < 4; m++) {
                h = 31 * h + hands.has(s, m);
            }
            h = 31 * (31 * h + hands.worth(s, 0)) + hands.worth(s, 1);
        }
        for (int m = 0; m < 4; m++) {
            h = 31 * (31 * h + hands.hard(m, 0)) + hands.hard(m, 1);
        }
        for (int what = 0; what < 4; what++) {
            h = 31 * h + hands.worst(what);
        }
        return 31 * (31 * h + hands.fault()) + hands.odd();
    }
}
