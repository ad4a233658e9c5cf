/** Promises 1 to 6: a new object, mark, read, asOf, has, bundle. */
public final class MarksTest {
    public static void main(String[] args) {
        newObject();
        marks();
        fullOfMarks();
        readsSheets();
        readsAsLongAsMayBe();
        asOfTimes();
        corrections();
        bundles();
        Runs.end();
    }

    private static void newObject() {
        Runs.run("1 a new object", """
            count(0) = 0
            count(1) = 0
            count(2) = 999
            count(3) = 0
            count(4) = 0
            count(5) = 0
            count(6) = 0
            count(7) = 0
            count(8) = 0
            has(0, 0) = NONE
            has(11, 3) = NONE
            bundle(0, 0) = NONE
            bundle(1, 0) = NONE
            hard(0, 0) = NOT
            worth(0, 0) = NOT
            off(0, 0) = NOT
            rank(0, 0) = NOT
            fault() = 0
            wipe() = 0
            grade(0) = NOT
            misses(0, 0) = NOT
            doubt(0, 1, 0) = NOT
            worst(0) = NOT
            next(0) = NOT
            bridge(0, 0) = NOT
            tied(-1) = 0
            tied(0) = NONE
            price(0, 1) = 1
            price(3, 1) = 1
            drift(0, 0) = NOT
            agree(0, 1, 0) = NOT
            odd() = NONE
            without(0, 0, 0) = NOT
            count(8) = 0
            lose(0) = NULL
            lose(1) = NULL
            lose(2) = NULL
            lose(3) = NULL
            """);
    }

    private static void marks() {
        Runs.run("2 mark", """
            mark(0, 0, 100, 0) = 1
            mark(11, 3, 0, 0) = 2
            mark(-1, 0, 5, 0) = BAD
            mark(12, 0, 5, 0) = BAD
            mark(LEAST, 0, 5, 0) = BAD
            mark(GREATEST, 0, 5, 0) = BAD
            mark(0, -1, 5, 0) = BAD
            mark(0, 4, 5, 0) = BAD
            mark(0, 0, -2, 0) = BAD
            mark(0, 0, 101, 0) = BAD
            mark(0, 0, 5, -1) = BAD
            mark(0, 0, 5, 1000) = BAD
            count(1) = 2
            count(3) = 0
            has(0, 0) = 100
            has(11, 3) = 0
            mark(4, 1, 7, 5) = 3
            count(3) = 5
            mark(4, 1, 8, 4) = BAD         # a time less than the one before
            has(4, 1) = 7
            count(3) = 5
            mark(4, 1, 8, 5) = 4           # not less
            has(4, 1) = 8
            mark(4, 1, -1, 999) = 5
            has(4, 1) = NONE
            count(0) = 2
            count(1) = 5
            mark(4, 2, -1, 999) = 6        # none where there was none is told too
            count(0) = 2
            count(3) = 999
            mark(0, 0, 1, 998) = BAD
            """);
    }

    private static void fullOfMarks() {
        Runs.run("2 mark, a hundred", "mark(3, 2, 40, 7)\n".repeat(99) + """
            count(1) = 99
            mark(3, 2, 41, 8) = 100
            mark(3, 2, 42, 9) = FULL
            mark(3, 2, 101, 9) = BAD       # ahead of FULL
            mark(3, 2, 42, 7) = BAD
            count(1) = 100
            count(3) = 8
            has(3, 2) = 41
            """);
    }

    private static void readsSheets() {
        Runs.run("3 read", """
            read(0, 0) = NULL
            count(8) = 1
            read(-1, 0) = BAD
            read(4, 0) = BAD
            read(0, -1) = BAD
            read(0, 1000) = BAD
            sheet(0, 2, 8) = 8
            put(0, 2, 0, 3) = 1
            put(0, 2, 1, 1) = 1
            put(0, 2, 2, 55) = 1
            put(0, 2, 3, 11) = 1
            put(0, 2, 4, 3) = 1
            put(0, 2, 5, 100) = 1
            put(0, 2, 6, 5) = 1            # two items over are no whole mark
            put(0, 2, 7, 2) = 1
            read(0, 9) = 2
            count(1) = 2
            count(3) = 9
            has(3, 1) = 55
            has(11, 3) = 100
            has(5, 2) = NONE
            read(0, 8) = BAD               # a time less than the one before
            read(1, 8) = BAD               # ahead of NULL
            read(1, 9) = NULL
            read(0, 9) = 2
            count(1) = 4
            sheet(1, 0, 2) = 2
            read(1, 20) = 0                # nothing whole: no time was told
            count(3) = 9
            sheet(1, 1, 0) = 0
            read(1, 20) = 0
            get(0, 2, 5) = 100
            sheet(2, 0, 3) = 3
            put(2, 0, 2, 33) = 1
            read(2, 20) = 1
            has(0, 0) = 33
            sheet(2, 0, 48) = 48           # sixteen times that script 0 has 0 of marker 0
            read(2, 20) = 16
            count(1) = 21
            """);
    }

    private static void readsAsLongAsMayBe() {
        Runs.run("3 read stops", """
            sheet(2, 1, 12) = 12
            put(2, 1, 0, 1) = 1
            put(2, 1, 2, 30) = 1
            put(2, 1, 3, 2) = 1
            put(2, 1, 4, 4) = 1            # no such marker
            put(2, 1, 6, 3) = 1
            put(2, 1, 8, 60) = 1
            read(2, 1) = 1
            has(1, 0) = 30
            has(3, 0) = NONE
            count(1) = 1
            put(2, 1, 4, 3) = 1
            put(2, 1, 5, -1) = 1           # that there is none may be told
            put(2, 1, 11, 101) = 1
            read(2, 1) = 3
            has(3, 0) = 60
            count(1) = 4
            count(8) = 0
            """);
        Runs.run("3 read until it is full", "mark(3, 2, 40, 7)\n".repeat(98) + """
            sheet(0, 0, 9) = 9
            put(0, 0, 2, 1) = 1
            put(0, 0, 5, 2) = 1
            put(0, 0, 8, 3) = 1
            read(0, 7) = 2
            has(0, 0) = 2
            read(0, 7) = 0
            count(1) = 100
            """);
        Runs.run("3 read where the first may not be", """
            sheet(0, 0, 3) = 3
            put(0, 0, 0, 12) = 1
            read(0, 50) = 0
            count(3) = 0
            mark(0, 0, 1, 40) = 1
            """);
    }

    private static void asOfTimes() {
        Runs.run("4 asOf", """
            asOf(0) = 999
            asOf(999) = 0
            asOf(-1) = BAD
            asOf(1000) = BAD
            count(2) = 999
            mark(0, 0, 10, 3) = 1
            mark(1, 0, 20, 5) = 2
            asOf(4) = 999
            count(2) = 4
            count(0) = 1
            count(1) = 2
            count(3) = 5
            count(7) = 1
            mark(2, 0, 30, 5) = 3          # told, but later than what is looked at
            has(2, 0) = NONE
            asOf(5) = 4
            has(2, 0) = 30
            asOf(2) = 5
            count(0) = 0
            bundle(1, 0) = NONE
            worth(0, 0) = NOT
            asOf(3) = 2
            worth(0) = 10/1
            """);
    }

    private static void corrections() {
        Runs.run("5 has", """
            has(-1, 0) = BAD
            has(12, 0) = BAD
            has(0, -1) = BAD
            has(0, 4) = BAD
            mark(6, 2, 10, 1) = 1
            mark(6, 2, 20, 1) = 2          # of one time the last told
            mark(6, 2, -1, 4) = 3
            mark(6, 2, 0, 6) = 4
            has(6, 2) = 0
            has(6, 1) = NONE
            has(2, 6) = BAD
            asOf(1)
            has(6, 2) = 20
            asOf(3)
            has(6, 2) = 20
            asOf(4)
            has(6, 2) = NONE
            asOf(5)
            has(6, 2) = NONE
            asOf(0)
            has(6, 2) = NONE
            """);
    }

    private static void bundles() {
        Runs.run("6 bundle", """
            mark(0, 3, 1, 0) = 1
            mark(1, 2, 1, 0) = 2
            mark(2, 1, 1, 0) = 3
            bundle(0, 0) = 3
            bundle(0, 1) = 2
            bundle(0, 2) = 1
            bundle(0, 3) = NONE
            bundle(1, 0) = NONE
            bundle(1, 3) = 3
            mark(0, 2, 1, 0) = 4           # 0 and 1 hang together
            bundle(0, 0) = 2
            bundle(1, 3) = 2
            bundle(0, 1) = 2
            bundle(0, 2) = 1
            mark(11, 3, 1, 0) = 5
            mark(11, 1, 1, 0) = 6          # now all, over two steps
            bundle(0, 1) = 1
            bundle(1, 2) = 1
            bundle(1, 1) = 1
            count(4) = 1
            mark(0, 2, -1, 1) = 7
            bundle(0, 1) = 2
            bundle(0, 0) = 1
            bundle(0, 12) = BAD
            bundle(0, -1) = BAD
            bundle(1, 4) = BAD
            bundle(1, -1) = BAD
            bundle(2, 0) = BAD
            bundle(-1, 0) = BAD
            bundle(1, 11) = BAD
            """);
    }
}
