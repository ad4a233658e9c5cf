/** Promises 12 to 17: type, wipe, fault, grade, hangs, misses. */
public final class GradesTest {
    /** Worths 119/2, 141/2, 49, 80; means 55, 66, 40, 80. */
    private static final String MARKS = """
        mark(0, 0, 60, 0) = 1
        mark(0, 1, 50, 0) = 2
        mark(1, 0, 70, 0) = 3
        mark(1, 1, 62, 0) = 4
        mark(2, 1, 40, 0) = 5
        mark(3, 0, 80, 0) = 6
        """;

    public static void main(String[] args) {
        types();
        wipes();
        faultsOfShape();
        faultsOfLetters();
        faultsOfNumbers();
        grades();
        hangs();
        misses();
        Runs.end();
    }

    private static void types() {
        Runs.run("12 type", """
            type(0) = 1
            type(255) = 2
            type(256) = BAD
            type(-1) = BAD
            type(LEAST) = BAD
            count(5) = 2
            """ + "type(65)\n".repeat(57) + """
            type(65) = 60
            type(65) = FULL
            type(256) = BAD                # ahead of FULL
            count(5) = 60
            """);
        Runs.run("12 type, the longest text that may be", """
            type("A=100.0;B=099.9;C=098.0;D=097.0;E=096.0;F=095.0")
            fault() = NONE
            """);
    }

    private static void wipes() {
        Runs.run("13 wipe", """
            wipe() = 0
            type("A=50")
            fault() = NONE
            wipe() = 4
            count(5) = 0
            fault() = 0
            wipe() = 0
            """ + "type(65)\n".repeat(60) + """
            wipe() = 60
            type(70) = 1
            fault() = 1
            """);
    }

    private static void fault(String text, int place) {
        Runs.run("14 fault of " + text, "type(\"" + text + "\")\nfault() = " + place + "\n");
    }

    private static void faultsOfShape() {
        fault("", 0);
        fault("A", 1);
        fault("A=", 2);
        fault("A=7", -1);
        fault("A=07", -1);
        fault("A=007", -1);
        fault("A=007.0", -1);
        fault("A=.5", 2);
        fault("A=7.", 4);
        fault("A=7.;", 4);
        fault("A=7.x", 4);
        fault("A=7.55", 5);
        fault("A=7.5.", 5);
        fault("A=7;", 4);
        fault("A=7;;", 4);
        fault("A=7,B=3", 3);
        fault("A:7", 1);
        fault("AAx", 1);
        fault("AB=x", 1);
        fault("A=7B=x", 3);
        fault("A=x;B=7", 2);
        fault("AA=7", 1);
        fault(" A=7", 0);
        fault("A =7", 1);
        fault("A= 7", 2);
        fault("A=-7", 2);
        fault("=7", 0);
        fault(";A=7", 0);
        fault("A=1000", 5);
        fault("A=0070", 5);
        fault("A=50;B=1000", 7);
        fault("A=50;B=0490", 10);
    }

    private static void faultsOfLetters() {
        fault("F=0", -1);
        fault("G=1", 0);
        fault("@=1", 0);
        fault("a=1", 0);
        fault("A=9;C=8;F=0", -1);
        fault("A=9;B=8;C=7;D=6;E=5;F=4", -1);
        fault("A=9;B=8;C=7;D=6;E=5;F=4;A=3", 24);
        fault("A=9;B=8;C=7;D=6;E=5;F=4;G=3", 24);
        fault("A=9;B=8;C=7;D=6;E=5;F=4;", 24);
        fault("B=9;A=8", 4);
        fault("B=9;B=8", 4);
        fault("B=9;A", 4);
    }

    private static void faultsOfNumbers() {
        fault("A=100", -1);
        fault("A=100.0", -1);
        fault("A=100.1", 2);
        fault("A=101", 2);
        fault("A=999;B=1", 2);
        fault("A=101.", 6);
        fault("A=101.x", 6);
        fault("A=101x", 2);
        fault("A=5555", 2);
        fault("A=50;B=50", 7);
        fault("A=50;B=50.0", 7);
        fault("A=50;B=49.9", -1);
        fault("A=50;B=50.1", 7);
        fault("A=50.1;B=50", -1);
        fault("A=50;B=5", -1);
        fault("A=50;B=51x", 7);
        fault("A=50;B=51.", 10);
        fault("A=0;B=0", 6);
        Runs.run("14 fault, looked at when it is whole", """
            type("A=50;B=5")
            fault() = NONE
            type(53) = 9
            fault() = 7
            wipe() = 9
            type("A=100")
            fault() = NONE
            type(46) = 6
            fault() = 6
            type(48) = 7
            fault() = NONE
            """);
    }

    private static void grades() {
        Runs.run("15 grade", MARKS + """
            type("A=70.5;C=59.5;E=49.1")
            grade(0) = 2                   # as much is enough
            grade(1) = 0
            grade(2) = 6
            grade(3) = 0
            grade(4) = NOT
            grade(-1) = BAD
            grade(12) = BAD
            type("B=70.6;D=59.6;F=49")
            grade(0) = 5
            grade(1) = 3
            grade(2) = 5
            grade(3) = 1
            type("B=70.6;")
            grade(3) = NOT
            grade(12) = BAD
            wipe()
            grade(3) = NOT                 # an empty text has a fault
            """);
        Runs.run("15 grade of a worth below 0", """
            mark(0, 0, 0, 0) = 1
            mark(0, 1, 10, 0) = 2
            mark(1, 1, 5, 0) = 3
            type("F=0")
            grade(0) = 5
            grade(1) = 6
            hangs(1) = 1
            hangs(0) = 0
            """);
    }

    private static void hangs() {
        Runs.run("16 hangs", MARKS + """
            hangs(0) = NOT
            type("A=70;B=60;C=55;D=45")
            hangs(0) = 0                   # 119/2 and 55: C both ways
            hangs(1) = 1                   # 141/2 and 66: A and B
            hangs(2) = 1                   # 49 and 40: D and U
            hangs(3) = 0
            hangs(4) = NOT
            hangs(-1) = BAD
            hangs(12) = BAD
            type("C=55.1")
            hangs(0) = 1
            type("C=60")
            hangs(0) = 0                   # U both ways
            type("C=")
            hangs(0) = NOT
            hangs(12) = BAD
            """);
    }

    private static void misses() {
        Runs.run("17 misses", MARKS + """
            misses(0, 0) = NOT
            type("A=70;B=60;C=50")
            misses(0, 0) = 0               # worths 59.5, 70.5, 49, 80
            misses(0, 4) = 0
            misses(0, 5) = 1               # 60
            misses(0, 9) = 1
            misses(0, 10) = 2              # and 50
            misses(0, -5) = 0
            misses(0, -6) = 1              # 69.9
            misses(0, -101) = 3            # 49.4, 60.4, 38.9, 69.9
            misses(0, 1000) = 2            # all A: but 70.5 and 80 were
            misses(0, -1000) = 3           # all U: but 49 was
            misses(0, 1001) = BAD
            misses(0, -1001) = BAD
            misses(-1, 0) = BAD
            misses(4, 0) = BAD
            misses(1, 0) = NOT             # its bundle bears the number 0
            misses(2, 0) = NOT
            mark(9, 2, 49, 1) = 7          # of another bundle
            misses(0, 10) = 2
            misses(2, 10) = 1
            misses(2, 9) = 0
            misses(2, -490) = 0
            mark(9, 2, 50, 1) = 8
            misses(2, -1) = 1
            misses(2, 0) = 0
            misses(2, 99) = 0
            misses(2, 100) = 1
            asOf(0)
            misses(2, 100) = NOT
            type("A=70.6")
            misses(0, 0) = 0               # 70.5 is a tenth below
            misses(0, 1) = 1
            misses(0, -94) = 0
            misses(0, -95) = 1
            type("A=7x")
            misses(0, 0) = NOT
            misses(4, 0) = BAD
            """);
    }
}
