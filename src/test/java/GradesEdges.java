/** The boundaries of part 3 and of promises 12 to 17: type, wipe, fault, grade, hangs, misses. */
final class GradesEdges {
    private static final String ALL = "EMPTY BUSY FULL";
    private static final int NONE = -1;

    /** No text without a fault is longer: 47 bytes. */
    private static final String LONGEST = "A=100.0;B=099.9;C=099.8;D=001.0;E=000.1;F=000.0";

    /** Script 5 has a worth of 49 and a third. */
    private static final String THIRD = """
        mark(0, 0, 51, 0)
        mark(0, 1, 50, 0)
        mark(1, 0, 50, 0)
        mark(1, 1, 50, 0)
        mark(2, 0, 50, 0)
        mark(2, 1, 50, 0)
        mark(5, 1, 49, 0)
        worth(5) = 148/3
        """;

    private GradesEdges() {
    }

    static void run() {
        bytesOfText();
        parts();
        letters();
        numbers();
        tenths();
        order();
        faultPlaces();
        wholeNumbers();
        gradeOfAScript();
        hangsOfAScript();
        missesOfABundle();
        type();
        wipe();
        fault();
        grade();
        hangs();
        misses();
    }

    private static void fault(String words, String text, int place) {
        Edges.edge(0, words, "type(\"" + text + "\")\nfault() = " + place + "\ncount(5) = " + text.length() + "\n");
    }

    private static void bytesOfText() {
        String words = "======== 3 GRADES: a text of up to 60 bytes:";
        Edges.edge(0, words, """
            59 x type(65)
            count(5) = 59
            type(66) = 60
            type(67) = FULL
            count(5) = 60
            wipe() = 60
            type(65) = 1
            """);
        fault(words, LONGEST, NONE);
        fault(words, LONGEST + ";", 48);
        fault(words, LONGEST + "0", 47);
        fault(words, LONGEST + ";G=000.00000", 48);
        fault(words, LONGEST + "; ".repeat(6) + ";", 48);
    }

    private static void parts() {
        String words = "parts with ; between them:";
        fault(words, "A=5", NONE);
        fault(words, "A=5;B=4", NONE);
        fault(words, "A=5;", 4);
        fault(words, ";A=5", 0);
        fault(words, "A=5;;B=4", 4);
        fault(words, "A=5:B=4", 3);
        fault(words, "A=5<B=4", 3);
        fault(words, "A=5B=4", 3);
        fault(words, "A=5; B=4", 4);
        fault(words, "A=5.5;B=4", NONE);
        fault(words, "A=6;B=5;C=4;D=3;E=2;F=1", NONE);
        fault(words, "A=6;B=5;C=4;D=3;E=2;F=1;", 24);
        fault(words, "A=6;B=5;C=4;D=3;E=2;F=1;F=0", 24);
    }

    private static void letters() {
        String words = "a letter A to F, =,";
        fault(words, "@=5", 0);
        fault(words, "A=5", NONE);
        fault(words, "F=5", NONE);
        fault(words, "G=5", 0);
        fault(words, "U=5", 0);
        fault(words, "a=5", 0);
        fault(words, "f=5", 0);
        fault(words, "0=5", 0);
        fault(words, "A<5", 1);
        fault(words, "A>5", 1);
        fault(words, "A5", 1);
        fault(words, "A==5", 2);
        Edges.edge(0, words, "type(0) = 1\nfault() = 0\nwipe() = 1\ntype(255) = 1\nfault() = 0\n");
        Edges.edge(0, words, "type(193) = 1\ntype(61) = 2\ntype(53) = 3\nfault() = 0\n");
    }

    private static void numbers() {
        String words = "a number (one to three figures, 0 to 100)";
        fault(words, "A=", 2);
        fault(words, "A=;", 2);
        fault(words, "A=0", NONE);
        fault(words, "A=9", NONE);
        fault(words, "A=/", 2);
        fault(words, "A=:", 2);
        fault(words, "A=-1", 2);
        fault(words, "A=+1", 2);
        fault(words, "A=00", NONE);
        fault(words, "A=99", NONE);
        fault(words, "A=000", NONE);
        fault(words, "A=099", NONE);
        fault(words, "A=100", NONE);
        fault(words, "A=101", 2);
        fault(words, "A=110", 2);
        fault(words, "A=999", 2);
        fault(words, "A=0000", 5);
        fault(words, "A=0100", 5);
        fault(words, "A=1000", 5);
        fault(words, "A=1010", 2);
        fault(words, "A=9/", 3);
        fault(words, "A=9:", 3);
    }

    private static void tenths() {
        String words = "perhaps with a . and one figure behind it (tenths).";
        fault(words, "A=5", NONE);
        fault(words, "A=5.", 4);
        fault(words, "A=5.0", NONE);
        fault(words, "A=5.9", NONE);
        fault(words, "A=5./", 4);
        fault(words, "A=5.:", 4);
        fault(words, "A=5.;B=4", 4);
        fault(words, "A=5.00", 5);
        fault(words, "A=5..0", 4);
        fault(words, "A=5.0.", 5);
        fault(words, "A=5-0", 3);
        fault(words, "A=5/0", 3);
        fault(words, "A=.0", 2);
        fault(words, "A=0.0", NONE);
        fault(words, "A=099.9", NONE);
        fault(words, "A=100.0", NONE);
        fault(words, "A=100.1", 2);
        fault(words, "A=0000.0", 5);
    }

    private static void order() {
        String words = "Each number is below the one ahead, each letter behind the one ahead.";
        fault(words, "A=50;B=49", NONE);
        fault(words, "A=50;B=50", 7);
        fault(words, "A=50;B=51", 7);
        fault(words, "A=50;B=49.9", NONE);
        fault(words, "A=50;B=50.0", 7);
        fault(words, "A=50;B=050", 7);
        fault(words, "A=50.0;B=50", 9);
        fault(words, "A=50.1;B=50", NONE);
        fault(words, "A=50.1;B=50.1", 9);
        fault(words, "A=0.1;B=0", NONE);
        fault(words, "A=0;B=0", 6);
        fault(words, "A=50;B=40;C=45", 12);
        fault(words, "A=50;B=40;C=39.9", NONE);
        fault(words, "A=5;A=4", 4);
        fault(words, "B=5;A=4", 4);
        fault(words, "B=5;B=4", 4);
        fault(words, "B=5;C=4", NONE);
        fault(words, "A=5;F=4", NONE);
        fault(words, "E=5;F=4", NONE);
        fault(words, "F=5;E=4", 4);
        fault(words, "F=5;F=4", 4);
        fault(words, "F=5;G=4", 4);
        fault(words, "A=9;C=8;B=7", 8);
    }

    private static void faultPlaces() {
        String words = "The FAULT is the place of the first byte with which it cannot go on (of an empty text 0),";
        fault(words, "", 0);
        fault(words, "A", 1);
        fault(words, "A=", 2);
        fault(words, "A=5x", 3);
        fault(words, "A=5x;B=9", 3);
        fault(words, "Ax=5;G=9", 1);
        fault(words, "A=x;B=9", 2);
        fault(words, "A=5;B", 5);
        fault(words, "A=5;B=", 6);
        fault(words, "A=5;B=4.", 8);
        fault(words, " A=5", 0);
        fault(words, "A=5 ", 3);
    }

    private static void wholeNumbers() {
        String words = "or of the first byte of a letter or number that may not be "
            + "(a number is looked at when it is whole).";
        fault(words, "Gx", 0);
        fault(words, "G", 0);
        fault(words, "A=5;A", 4);
        fault(words, "A=5;Ax", 4);
        fault(words, "A=101x", 2);
        fault(words, "A=101;", 2);
        fault(words, "A=101;B=x", 2);
        fault(words, "A=101.x", 6);
        fault(words, "A=101.5", 2);
        fault(words, "A=101.55", 2);
        fault(words, "A=50;B=60x", 7);
        fault(words, "A=50;B=50.x", 10);
        Edges.edge(0, words, """
            type("A=50;B=6")
            fault() = NONE                 # 6
            type(48) = 9
            fault() = 7                    # 60
            type(46) = 10
            fault() = 10                   # 60. is not whole yet
            type(49) = 11
            fault() = 7                    # 60.1
            type(59) = 12
            fault() = 7
            """);
        Edges.edge(0, words, """
            type("A=10")
            fault() = NONE
            type(48) = 5
            fault() = NONE                 # 100
            type(46) = 6
            fault() = 6
            type(48) = 7
            fault() = NONE                 # 100.0
            type(48) = 8
            fault() = 7
            """);
    }

    private static void gradeOfAScript() {
        String words = "GRADE of a SCRIPT: the first letter whose number its WORTH comes to (0 for A ..), "
            + "U (6) without one.";
        Edges.edge(0, words, """
            mark(0, 0, 50, 0) = 1
            type("A=60;B=50;C=40;D=30;E=20;F=10")
            grade(0) = 1                   # it comes to 50
            mark(0, 0, 49, 0) = 2
            grade(0) = 2
            mark(0, 0, 60, 0) = 3
            grade(0) = 0
            mark(0, 0, 30, 0) = 4
            grade(0) = 3
            mark(0, 0, 20, 0) = 5
            grade(0) = 4
            mark(0, 0, 10, 0) = 6
            grade(0) = 5
            mark(0, 0, 9, 0) = 7
            grade(0) = 6
            mark(0, 0, 100, 0) = 8
            grade(0) = 0
            type("B=50")
            grade(0) = 1                   # a letter's number is its own, also where it stands first
            mark(0, 0, 49, 0) = 9
            grade(0) = 6
            type("F=49.1")
            grade(0) = 6
            type("F=49.0")
            grade(0) = 5
            """);
        Edges.edge(0, words, THIRD + """
            type("A=49.4;D=49.3")
            grade(5) = 3
            type("A=49.3;D=49.2")
            grade(5) = 0
            """);
        Edges.edge(0, words, """
            mark(0, 0, 0, 0) = 1
            type("F=0")
            grade(0) = 5                   # 0 comes to 0
            mark(0, 1, 1, 0) = 2
            mark(1, 1, 0, 0) = 3
            worth(1) = -1/1
            grade(1) = 6                   # below 0 comes to no number
            mark(1, 1, 1, 0) = 4
            grade(1) = 5
            """);
        Edges.edge(0, words, """
            mark(0, 0, 100, 0) = 1
            mark(1, 0, 100, 0) = 2
            mark(1, 1, 0, 0) = 3
            mark(2, 1, 100, 0) = 4
            mark(3, 0, 99, 0) = 5
            type("A=100")
            grade(0) = 0
            grade(2) = 0                   # worth 200
            grade(3) = 6
            """);
    }

    private static void hangsOfAScript() {
        Edges.edge(0, "HANGS: whether it has another GRADE by the mean of its MARKS.", """
            mark(0, 0, 60, 0) = 1
            mark(0, 1, 51, 0) = 2          # worth 60, mean 55.5
            type("A=60.1;B=55.5")
            hangs(0) = 0                   # B and B: it comes to 55.5
            type("A=60;B=55.5")
            hangs(0) = 1                   # A and B
            type("A=60.1;B=55.6")
            hangs(0) = 1                   # B and U
            type("A=60.1")
            hangs(0) = 0                   # U and U
            type("A=55.5")
            hangs(0) = 0                   # A and A
            mark(0, 1, -1, 0) = 3
            type("A=60")
            hangs(0) = 0                   # by one hand that is 0 hard worth and mean are one
            """);
    }

    private static void missesOfABundle() {
        String words = """
            MISSES: how many SCRIPTS with WORTH there are whose GRADE would be another,
            if all WORTHS of the BUNDLE were as many tenths (-1000 to 1000) more.""";
        Edges.edge(0, words, """
            mark(0, 0, 0, 0) = 1
            mark(1, 0, 100, 0) = 2
            mark(4, 1, 0, 0) = 3           # of another bundle
            type("A=100")
            misses(0, 1000) = 1            # 0 becomes 100
            misses(0, 999) = 0
            misses(0, 1001) = BAD
            misses(0, -1) = 1              # 100 becomes 99.9
            misses(0, 0) = 0
            misses(0, -1000) = 1
            misses(0, -1001) = BAD
            type("F=0")
            misses(0, -1000) = 1           # 0 becomes U, and 100 comes to 0 still
            misses(0, -1) = 1
            misses(0, 1000) = 0
            misses(1, -1) = 1
            """);
        Edges.edge(0, words, THIRD + """
            type("A=60;B=50.8")
            worth(0) = 152/3
            worth(1) = 301/6
            misses(0, 1) = 0               # 50 and two thirds and a tenth
            misses(0, 2) = 1
            misses(0, 6) = 1               # scripts 1 and 2 too
            misses(0, 7) = 3
            misses(0, 14) = 3              # and 49 and a third
            misses(0, 15) = 4
            """);
    }

    private static void type() {
        Edges.edge(12, "A byte (0 to 255) comes behind GRADES: how many.", """
            type(0) = 1
            type(255) = 2
            type(-1) = BAD
            type(256) = BAD
            count(5) = 2
            wipe() = 2
            type(65) = 1
            type(61) = 2
            type(321) = BAD                # not 65, whatever its lowest bits are
            type(53) = 3
            fault() = NONE                 # A=5: what was refused is not in it
            """);
        Edges.refused(12, "BAD;", ALL, "type(-1) = BAD\ntype(256) = BAD\ntype(LEAST) = BAD\ntype(GREATEST) = BAD\n");
        Edges.refused(12, "FULL.", "FULL", "type(0) = FULL\ntype(65) = FULL\ntype(255) = FULL\n");
        Edges.edge(12, "BAD; FULL.", """
            59 x type(48)
            type(256) = BAD
            type(48) = 60
            type(48) = FULL
            type(256) = BAD                # ahead of FULL
            type(-1) = BAD
            wipe() = 60
            type(48) = 1
            """);
    }

    private static void wipe() {
        Edges.edge(13, "GRADES are empty: how many bytes they had.", """
            wipe() = 0
            type(65) = 1
            wipe() = 1
            wipe() = 0
            60 x type(65)
            wipe() = 60
            count(5) = 0
            fault() = 0
            type("A=9")
            fault() = NONE
            wipe() = 3
            fault() = 0
            type("B=5")
            fault() = NONE                 # nothing of A=9 is left
            """);
    }

    private static void fault() {
        Edges.edge(14, "The FAULT; NONE.", """
            fault() = 0
            type(65) = 1
            fault() = 1
            type(61) = 2
            fault() = 2
            type(53) = 3
            fault() = NONE
            type(59) = 4
            fault() = 4
            57 x type(66)                  # the last one finds no room
            count(5) = 60
            fault() = 5
            wipe() = 60
            fault() = 0
            """);
        Edges.edge(14, "The FAULT; NONE.", "type(\"" + LONGEST + "\")\nfault() = NONE\n");
    }

    private static void grade() {
        Edges.edge(15, "GRADE of a SCRIPT.", "type(\"" + LONGEST + "\")\n" + """
            mark(0, 0, 0, 0) = 1
            mark(11, 3, 100, 0) = 2
            mark(5, 1, 99, 0) = 3
            grade(0) = 5
            grade(11) = 0
            grade(5) = 3
            """);
        Edges.refused(15, "BAD;", ALL, "grade(-1) = BAD\ngrade(12) = BAD\ngrade(LEAST) = BAD\ngrade(GREATEST) = BAD\n");
        Edges.refused(15, "NOT: a FAULT, no MARK.", "EMPTY", "grade(0) = NOT\ngrade(11) = NOT\n");
        Edges.refused(15, "NOT: a FAULT, no MARK.", "BUSY", "grade(3) = NOT\ngrade(4) = NOT\ngrade(11) = NOT\n");
        Edges.refused(15, "NOT: a FAULT, no MARK.", "FULL", "grade(0) = NOT\ngrade(11) = NOT\n");
        Edges.edge(15, "NOT: a FAULT, no MARK.", """
            mark(0, 0, 50, 0) = 1
            grade(0) = NOT                 # an empty text has a fault
            type("A=5.")
            grade(0) = NOT
            type(48) = 5
            grade(0) = 0
            grade(1) = NOT
            type(48) = 6
            grade(0) = NOT
            """);
    }

    private static void hangs() {
        Edges.edge(16, "HANGS: 1, 0.", """
            mark(11, 0, 60, 0) = 1
            mark(11, 3, 50, 0) = 2
            type("A=60")
            hangs(11) = 1
            type("A=55")
            hangs(11) = 0
            """);
        Edges.refused(16, "BAD;", ALL, "hangs(-1) = BAD\nhangs(12) = BAD\nhangs(LEAST) = BAD\nhangs(GREATEST) = BAD\n");
        Edges.refused(16, "NOT.", "EMPTY", "hangs(0) = NOT\nhangs(11) = NOT\n");
        Edges.refused(16, "NOT.", "BUSY", "hangs(3) = NOT\nhangs(4) = NOT\nhangs(11) = NOT\n");
        Edges.refused(16, "NOT.", "FULL", "hangs(0) = NOT\nhangs(11) = NOT\n");
    }

    private static void misses() {
        Edges.edge(17, "MISSES of a BUNDLE.", """
            mark(0, 3, 50, 0) = 1
            mark(11, 0, 50, 0) = 2
            type("A=50.1;C=50")
            misses(0, 0) = 0
            misses(3, 0) = 0
            misses(0, 1) = 1
            misses(3, 1) = 1
            misses(3, -1) = 1
            misses(3, 1000) = 1
            misses(3, -1000) = 1
            """);
        Edges.refused(17, "BAD;", ALL, """
            misses(-1, 0) = BAD
            misses(4, 0) = BAD
            misses(LEAST, 0) = BAD
            misses(GREATEST, 0) = BAD
            misses(0, -1001) = BAD
            misses(0, 1001) = BAD
            misses(0, LEAST) = BAD
            misses(0, GREATEST) = BAD
            """);
        Edges.refused(17, "NOT: a FAULT, no such BUNDLE.", "EMPTY", "misses(0, 0) = NOT\nmisses(3, 0) = NOT\n");
        Edges.refused(17, "NOT: a FAULT, no such BUNDLE.", "BUSY", """
            misses(1, 0) = NOT             # marker 1 is of bundle 0
            misses(3, 0) = NOT             # marker 3 is of none
            """);
        Edges.refused(17, "NOT: a FAULT, no such BUNDLE.", "FULL", """
            misses(0, 0) = NOT             # there is the bundle, but a fault too
            misses(1, 1000) = NOT
            """);
    }
}
