/** The boundaries of promises 1 to 6: a new object, mark, read, asOf, has, bundle. */
final class MarksEdges {
    private static final String ALL = "EMPTY BUSY FULL";

    private MarksEdges() {
    }

    static void run() {
        newObject();
        marks();
        marksFull();
        readsWhole();
        readsAsLong();
        readsFull();
        readsTime();
        readRefusals();
        asOf();
        has();
        bundles();
    }

    private static void newObject() {
        StringBuilder nothing = new StringBuilder();
        for (int s = 0; s < 12; s++) {
            for (int m = 0; m < 4; m++) {
                nothing.append("has(" + s + ", " + m + ") = NONE\nfit(" + s + ", " + m + ", 0) = NOT\n");
                nothing.append("bridge(" + s + ", " + m + ") = NOT\nwithout(" + s + ", " + m + ", 1) = NOT\n");
            }
            nothing.append("bundle(0, " + s + ") = NONE\nworth(" + s + ") = NOT/NOT\nrank(" + s + ", 0) = NOT\n");
            nothing.append("rank(" + s + ", 1) = NOT\ngrade(" + s + ") = NOT\nhangs(" + s + ") = NOT\n");
        }
        for (int m = 0; m < 4; m++) {
            nothing.append("bundle(1, " + m + ") = NONE\nhard(" + m + ") = NOT/NOT\noff(" + m + ") = NOT/NOT\n");
            nothing.append("drift(" + m + ") = NOT/NOT\nmisses(" + m + ", 0) = NOT\nprice(" + m + ", 1) = 1\n");
            nothing.append("worst(" + m + ") = NOT\nnext(" + m + ") = NOT\n");
            nothing.append("agree(" + m + ", " + (m + 1) % 4 + ", 1) = NOT\n");
        }
        Edges.edge(1, "Nothing is told;", nothing + """
            doubt(0, 11, 0) = NOT
            tied(-1) = 0
            tied(0) = NONE
            odd() = NONE
            fault() = 0
            count(0) = 0
            count(1) = 0
            count(3) = 0
            count(8) = 0
            wipe() = 0
            """);
        Edges.edge(1, "Nothing is told;", "mark(0, 0, 5, 0) = 1\n");
        Edges.edge(1, "all SHEETS are LOST.", """
            write(0, 0) = NULL
            read(1, 0) = NULL
            put(2, 2, 0, 0) = NULL
            copy(3, 0, 3, 0, 0) = NULL
            lose(0) = NULL
            lose(1) = NULL
            lose(2) = NULL
            lose(3) = NULL
            """);
        oneBesideAnother();
    }

    /** What one object is told is not told to the next, nor to one that was there. */
    private static void oneBesideAnother() {
        MarkedHands first = new MarkedHands();
        MarkedHands full = new MarkedHands();
        for (int i = 0; i < 100; i++) {
            full.mark(i % 12, i % 4, i, 9);
            full.type(65);
        }
        full.sheet(3, 2, 48);
        full.price(1, 50);
        full.asOf(9);
        full.lose(0);
        MarkedHands next = new MarkedHands();
        for (MarkedHands hands : new MarkedHands[] {first, next}) {
            boolean nothing = hands.count(1) == 0 && hands.count(2) == 999 && hands.count(3) == 0
                && hands.count(5) == 0 && hands.count(8) == 0 && hands.lose(3) == -11 && hands.price(1, 1) == 1;
            Edges.check(1, "Nothing is told; all SHEETS are LOST.", nothing, "another object's calls are seen");
        }
    }

    private static void marks() {
        Edges.edge(2, "A MARK (-1: none) is told at a TIME: how many were.", """
            mark(0, 0, -1, 0) = 1
            has(0, 0) = NONE
            mark(0, 0, 0, 0) = 2
            has(0, 0) = 0
            mark(0, 0, 100, 0) = 3
            has(0, 0) = 100
            mark(11, 3, -1, 999) = 4       # none where there was none counts too
            mark(11, 3, 100, 999) = 5
            mark(11, 3, 100, 999) = 6      # so does the same once more
            count(1) = 6
            count(0) = 2
            """);
        Edges.refused(2, "BAD:", ALL, """
            mark(-1, 0, 50, 20) = BAD
            mark(12, 0, 50, 20) = BAD
            mark(LEAST, 0, 50, 20) = BAD
            mark(GREATEST, 0, 50, 20) = BAD
            mark(0, -1, 50, 20) = BAD
            mark(0, 4, 50, 20) = BAD
            mark(0, LEAST, 50, 20) = BAD
            mark(0, GREATEST, 50, 20) = BAD
            mark(0, 0, -2, 20) = BAD
            mark(0, 0, 101, 20) = BAD
            mark(0, 0, LEAST, 20) = BAD
            mark(0, 0, GREATEST, 20) = BAD
            mark(0, 0, 50, -1) = BAD
            mark(0, 0, 50, 1000) = BAD
            mark(0, 0, 50, LEAST) = BAD
            mark(0, 0, 50, GREATEST) = BAD
            """);
        Edges.refused(2, "BAD: also a TIME less than the one before;", "BUSY", """
            mark(0, 0, 50, 7) = BAD        # 8 was told
            mark(0, 0, 50, 0) = BAD
            """);
        Edges.edge(2, "BAD: also a TIME less than the one before;", """
            mark(0, 0, 50, 999) = 1
            mark(0, 0, 51, 998) = BAD
            mark(0, 0, 52, 999) = 2
            mark(0, 0, 53, 1000) = BAD
            has(0, 0) = 52
            """);
    }

    private static void marksFull() {
        Edges.refused(2, "FULL.", "FULL", """
            mark(0, 0, 50, 20) = FULL
            mark(0, 0, 50, 999) = FULL
            mark(11, 3, -1, 20) = FULL
            """);
        Edges.refused(2, "BAD: also a TIME less than the one before; FULL.", "FULL", """
            mark(0, 0, 50, 19) = BAD       # ahead of FULL
            mark(0, 0, 101, 20) = BAD
            """);
        Edges.edge(2, "FULL.", """
            99 x mark(0, 0, 50, 7)
            mark(0, 0, 51, 7) = 100
            mark(0, 0, 52, 900) = FULL
            count(3) = 7                   # 900 was not told
            sheet(0, 0, 0) = 0
            read(0, 7) = 0                 # so 7 is not less
            """);
    }

    /** A sheet of 0 to 6 items: that script 0 has 0 of marker 0, once or twice, and what is not whole. */
    private static void readsWhole() {
        for (int items = 0; items <= 6; items++) {
            int whole = items / 3;
            Edges.edge(3, "its items, SCRIPT, MARKER, MARK, as many as are whole,",
                "sheet(1, 1, " + items + ") = " + items + "\nread(1, 5) = " + whole + "\ncount(1) = " + whole + "\n");
        }
        Edges.edge(3, "MARKS of a SHEET are told at a TIME:", """
            sheet(0, 0, 3) = 3
            put(0, 0, 0, 11) = 1
            put(0, 0, 1, 3) = 1
            put(0, 0, 2, 100) = 1
            sheet(3, 2, 3) = 3
            put(3, 2, 2, -1) = 1
            read(0, 0) = 1
            has(11, 3) = 100
            count(3) = 0
            read(3, 999) = 1               # -1: that there is none
            has(0, 0) = NONE
            count(1) = 2
            count(3) = 999
            get(0, 0, 2) = 100             # the sheet stays as it was
            lose(0) = 3
            """);
        Edges.edge(3, "its items, SCRIPT, MARKER, MARK, as many as are whole,", """
            sheet(2, 0, 48) = 48
            put(2, 0, 45, 11) = 1          # the last three of 48
            put(2, 0, 46, 2) = 1
            put(2, 0, 47, 9) = 1
            read(2, 1) = 16
            has(11, 2) = 9
            sheet(2, 0, 47) = 47
            put(2, 0, 45, 12) = 1          # of 47 two are over, and not looked at
            read(2, 1) = 15
            count(1) = 31
            """);
    }

    private static void readsAsLong() {
        for (String wrong : new String[] {"0, -1", "0, 12", "1, -1", "1, 4", "2, -2", "2, 101", "2, 127"}) {
            String[] what = wrong.split(", ");
            int item = 3 + Integer.parseInt(what[0]);
            Edges.edge(3, "as long as each may be: how many.", "sheet(0, 0, 9) = 9\nput(0, 0, 2, 50) = 1\n"
                + "put(0, 0, 6, 5) = 1\nput(0, 0, " + item + ", " + what[1] + ") = 1\n" + """
                read(0, 4) = 1                 # the first; the third may be, but comes too late
                has(0, 0) = 50
                has(5, 0) = NONE
                count(1) = 1
                count(3) = 4
                """);
        }
        for (String right : new String[] {"0, 0", "0, 11", "1, 0", "1, 3", "2, -1", "2, 0", "2, 100"}) {
            Edges.edge(3, "as long as each may be: how many.",
                "sheet(0, 0, 9) = 9\nput(0, 0, " + (3 + Integer.parseInt(right.split(", ")[0])) + ", "
                + right.split(", ")[1] + ") = 1\nread(0, 4) = 3\ncount(1) = 3\n");
        }
        Edges.edge(3, "as long as each may be: how many.", """
            sheet(0, 2, 6) = 6
            put(0, 2, 0, 256) = 1          # an int is looked at whole
            read(0, 4) = 0
            put(0, 2, 0, LEAST) = 1
            read(0, 4) = 0
            count(1) = 0
            count(8) = 0                   # it is no finding
            """);
    }

    private static void readsFull() {
        for (int told = 97; told <= 100; told++) {
            int more = Math.min(2, 100 - told);
            Edges.edge(3, "as long as each may be: how many.", told + " x mark(3, 3, 50, 7)\n" + """
                sheet(0, 0, 6) = 6
                put(0, 0, 2, 1) = 1
                put(0, 0, 3, 1) = 1
                put(0, 0, 5, 2) = 1
                """ + "read(0, 8) = " + more + "\ncount(1) = " + (told + more) + "\ncount(3) = " + (more > 0 ? 8 : 7)
                + "\nhas(0, 0) = " + (more > 0 ? "1" : "NONE") + "\nhas(1, 0) = " + (more > 1 ? "2" : "NONE") + "\n");
        }
    }

    private static void readsTime() {
        Edges.edge(3, "MARKS of a SHEET are told at a TIME:", """
            sheet(0, 0, 2) = 2
            read(0, 500) = 0               # no mark was told, so no time was
            count(3) = 0
            sheet(0, 0, 3) = 3
            put(0, 0, 0, 12) = 1
            read(0, 500) = 0
            count(3) = 0
            mark(0, 0, 50, 1) = 1
            read(0, 1) = 0
            read(0, 0) = BAD
            put(0, 0, 0, 1) = 1
            read(0, 1) = 1
            mark(0, 0, 50, 0) = BAD
            """);
    }

    private static void readRefusals() {
        Edges.refused(3, "BAD; NULL.", ALL, """
            read(-1, 20) = BAD
            read(4, 20) = BAD
            read(LEAST, 20) = BAD
            read(GREATEST, 20) = BAD
            read(0, -1) = BAD              # of a LOST sheet too: BAD is ahead of NULL
            read(0, 1000) = BAD
            read(0, LEAST) = BAD
            read(0, GREATEST) = BAD
            """);
        Edges.refused(3, "BAD; NULL.", "EMPTY",
            "read(0, 0) = NULL\nread(1, 0) = NULL\nread(2, 9) = NULL\nread(3, 999) = NULL\n");
        Edges.refused(3, "BAD; NULL.", "BUSY", """
            read(3, 8) = NULL
            read(3, 7) = BAD
            read(1, 7) = BAD               # less than the one before
            """);
    }

    private static void asOf() {
        Edges.edge(4, "AS OF a TIME: what it was.", """
            asOf(0) = 999
            asOf(0) = 0
            asOf(999) = 0
            asOf(999) = 999
            asOf(998) = 999
            asOf(1) = 998
            count(2) = 1
            """);
        Edges.edge(4, "AS OF a TIME: what it was.", """
            mark(0, 0, 1, 0) = 1
            mark(1, 1, 2, 999) = 2
            asOf(0)
            count(0) = 1
            count(7) = 1
            asOf(998)
            count(0) = 1
            asOf(999)
            count(0) = 2
            count(7) = 3
            """);
        Edges.refused(4, "BAD.", ALL, "asOf(-1) = BAD\nasOf(1000) = BAD\nasOf(LEAST) = BAD\nasOf(GREATEST) = BAD\n");
    }

    private static void has() {
        Edges.edge(5, "The MARK of a SCRIPT by a MARKER; NONE.", """
            has(0, 0) = NONE
            has(11, 3) = NONE
            mark(0, 0, 0, 0) = 1
            mark(11, 3, 100, 0) = 2
            has(0, 0) = 0
            has(11, 3) = 100
            has(0, 3) = NONE
            has(11, 0) = NONE
            has(1, 0) = NONE
            has(10, 3) = NONE
            mark(11, 3, -1, 0) = 3
            has(11, 3) = NONE
            """);
        Edges.refused(5, "BAD.", ALL, """
            has(-1, 0) = BAD
            has(12, 0) = BAD
            has(LEAST, 0) = BAD
            has(GREATEST, 0) = BAD
            has(0, -1) = BAD
            has(0, 4) = BAD
            has(0, LEAST) = BAD
            has(0, GREATEST) = BAD
            has(1, -4) = BAD
            has(-1, 4) = BAD
            """);
    }

    private static void bundles() {
        Edges.edge(6, "The BUNDLE of a SCRIPT (what = 0), of a MARKER (1); NONE: no MARK.", """
            mark(0, 3, 50, 0) = 1
            mark(11, 0, 50, 0) = 2
            bundle(0, 0) = 3
            bundle(0, 11) = 0
            bundle(1, 0) = 0
            bundle(1, 3) = 3
            bundle(0, 3) = NONE
            bundle(1, 1) = NONE
            mark(0, 3, -1, 0) = 3
            bundle(0, 0) = NONE
            bundle(1, 3) = NONE
            """);
        Edges.refused(6, "BAD.", ALL, """
            bundle(-1, 0) = BAD
            bundle(2, 0) = BAD
            bundle(LEAST, 0) = BAD
            bundle(GREATEST, 0) = BAD
            bundle(0, -1) = BAD
            bundle(0, 12) = BAD
            bundle(0, LEAST) = BAD
            bundle(0, GREATEST) = BAD
            bundle(1, -1) = BAD
            bundle(1, 4) = BAD             # a script could be 4
            bundle(1, 11) = BAD
            bundle(1, LEAST) = BAD
            bundle(1, GREATEST) = BAD
            """);
    }
}
