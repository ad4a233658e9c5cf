/** Promises 28 to 35: sheet, lose, put, get, copy, write, count, digest. */
public final class SheetsTest {
    public static void main(String[] args) {
        sheets();
        loses();
        puts();
        gets();
        copies();
        copiesOver();
        writes();
        counts();
        digests();
        digestOfNothing();
        Runs.end();
    }

    private static void sheets() {
        Runs.run("28 sheet", """
            sheet(0, 0, 0) = 0
            sheet(1, 1, 48) = 48
            sheet(3, 2, 7) = 7
            sheet(1, 1, 49) = BAD
            sheet(-1, 0, 1) = BAD
            sheet(4, 0, 1) = BAD
            sheet(0, -1, 1) = BAD
            sheet(0, 3, 1) = BAD
            sheet(4, 0, -1) = BAD          # ahead of SIZE
            sheet(0, 3, -1) = BAD
            count(8) = 0
            sheet(2, 0, -1) = SIZE
            count(8) = 5
            sheet(2, 0, LEAST) = SIZE
            lose(2) = NULL                 # it is no row for that
            get(1, 1, 47) = 0
            put(1, 1, 47, 9) = 1
            sheet(1, 1, -1) = SIZE
            get(1, 1, 47) = 9
            put(1, 1, 0, 9) = 1
            sheet(1, 1, 48) = 48           # a new row
            get(1, 1, 47) = 0
            get(1, 1, 0) = 0
            put(1, 1, 3, 9) = 1
            sheet(1, 2, 5) = 5
            get(1, 2, 3) = 0
            get(1, 1, 3) = LEAST
            """);
    }

    private static void loses() {
        Runs.run("29 lose", """
            lose(0) = NULL
            count(8) = 1
            lose(-1) = BAD
            lose(4) = BAD
            sheet(0, 2, 12) = 12
            sheet(3, 0, 0) = 0
            put(0, 2, 5, 5) = 1
            lose(0) = 12
            lose(3) = 0
            lose(0) = NULL
            get(0, 2, 5) = LEAST
            sheet(0, 2, 12) = 12
            get(0, 2, 5) = 0
            """);
    }

    private static void puts() {
        Runs.run("30 put", """
            put(0, 0, 0, 1) = NULL
            put(-1, 0, 0, 1) = BAD
            put(4, 0, 0, 1) = BAD
            put(0, -1, 0, 1) = BAD
            put(0, 3, 0, 1) = BAD
            count(8) = 1
            sheet(0, 0, 3) = 3
            sheet(1, 1, 3) = 3
            sheet(2, 2, 3) = 3
            put(0, 1, 0, 1) = CAST
            count(8) = 3
            put(0, 2, 9, 1) = CAST         # ahead of INDEX
            put(0, 0, 3, 1) = INDEX
            count(8) = 2
            put(0, 0, -1, 1) = INDEX
            put(0, 0, LEAST, 1) = INDEX
            put(0, 0, GREATEST, 1) = INDEX
            put(1, 0, 0, 1) = CAST
            put(2, 1, 0, 1) = CAST
            put(0, 0, 0, 127) = 1
            get(0, 0, 0) = 127
            put(0, 0, 0, 128) = 1
            get(0, 0, 0) = -128
            put(0, 0, 0, 511) = 1
            get(0, 0, 0) = -1
            put(0, 0, 2, -300) = 1
            get(0, 0, 2) = -44
            get(0, 0, 1) = 0
            put(1, 1, 0, 32768) = 1
            get(1, 1, 0) = -32768
            put(1, 1, 1, 98304) = 1
            get(1, 1, 1) = -32768
            put(1, 1, 2, GREATEST) = 1
            get(1, 1, 2) = -1
            put(2, 2, 2, LEAST) = 1
            get(2, 2, 2) = LEAST
            put(2, 2, 1, GREATEST) = 1
            get(2, 2, 1) = 2147483647
            """);
    }

    private static void gets() {
        Runs.run("31 get", """
            get(-1, 0, 0) = LEAST
            get(4, 0, 0) = LEAST
            get(0, -1, 0) = LEAST
            get(0, 3, 0) = LEAST
            count(8) = 0                   # BAD is no finding
            get(0, 0, 0) = LEAST
            count(8) = 1
            sheet(0, 1, 2) = 2
            put(0, 1, 1, -7) = 1
            get(0, 1, 1) = -7
            count(8) = 1                   # the latest stays
            get(0, 0, 1) = LEAST
            count(8) = 3
            get(0, 1, 2) = LEAST
            count(8) = 2
            get(0, 2, 2) = LEAST
            count(8) = 3
            get(0, 1, -1) = LEAST
            count(8) = 2
            """);
    }

    private static void copies() {
        Runs.run("32 copy", """
            copy(-1, 0, 0, 0, 0) = BAD
            copy(4, 0, 0, 0, 0) = BAD
            copy(0, 0, -1, 0, 0) = BAD
            copy(0, 0, 4, 0, 0) = BAD
            copy(0, 0, 1, 0, 0) = NULL
            count(8) = 1
            sheet(0, 0, 4) = 4
            copy(0, 0, 1, 0, 0) = NULL
            copy(1, 0, 0, 0, 0) = NULL
            sheet(1, 2, 6) = 6
            copy(0, 0, 1, 0, 1) = STORE
            count(8) = 4
            copy(0, -1, 1, 0, 1) = STORE   # ahead of INDEX
            copy(0, 0, 1, 0, 0) = STORE
            sheet(1, 0, 6) = 6
            put(0, 0, 0, 10) = 1
            put(0, 0, 1, 11) = 1
            put(0, 0, 2, 12) = 1
            put(0, 0, 3, 13) = 1
            copy(0, 1, 1, 3, 3) = 1
            get(1, 0, 2) = 0
            get(1, 0, 3) = 11
            get(1, 0, 4) = 12
            get(1, 0, 5) = 13
            get(0, 0, 1) = 11
            copy(0, 0, 1, 0, 4) = 1        # all of it
            get(1, 0, 0) = 10
            get(1, 0, 3) = 13
            sheet(2, 0, 1) = 1
            put(2, 0, 0, 7) = 1
            copy(2, 0, 1, 5, 1) = 1
            get(1, 0, 5) = 7
            copy(0, 1, 1, 3, 3) = 1
            copy(0, 2, 1, 0, 3) = INDEX
            copy(0, 1, 1, 4, 3) = INDEX
            count(8) = 2
            get(1, 0, 4) = 12              # not a part of it
            copy(0, -1, 1, 0, 1) = INDEX
            copy(0, 0, 1, -1, 1) = INDEX
            copy(0, 0, 1, 0, -1) = INDEX
            copy(0, 4, 1, 6, 0) = 1        # nothing, behind the last
            copy(0, 5, 1, 0, 0) = INDEX
            copy(0, 0, 1, 7, 0) = INDEX
            copy(0, GREATEST, 1, 0, 1) = INDEX
            copy(0, 1, 1, 0, GREATEST) = INDEX
            copy(0, 0, 1, GREATEST, GREATEST) = INDEX
            copy(0, LEAST, 1, 0, LEAST) = INDEX
            """);
    }

    private static void copiesOver() {
        Runs.run("32 copy within one sheet", """
            sheet(3, 2, 5) = 5
            put(3, 2, 0, 1) = 1
            put(3, 2, 1, 2) = 1
            put(3, 2, 2, 3) = 1
            put(3, 2, 3, 4) = 1
            put(3, 2, 4, 5) = 1
            copy(3, 0, 3, 1, 4) = 1
            get(3, 2, 0) = 1
            get(3, 2, 1) = 1
            get(3, 2, 2) = 2
            get(3, 2, 4) = 4
            copy(3, 2, 3, 0, 3) = 1
            get(3, 2, 0) = 2
            get(3, 2, 1) = 3
            get(3, 2, 2) = 4
            get(3, 2, 3) = 3
            copy(3, 1, 3, 1, 4) = 1
            get(3, 2, 1) = 3
            """);
    }

    private static void writes() {
        Runs.run("33 write", """
            write(0, 0) = NULL
            count(8) = 1
            write(-1, 0) = BAD
            write(4, 0) = BAD
            write(0, -1) = BAD
            write(0, 4) = BAD
            mark(0, 2, 100, 0) = 1
            mark(3, 2, 0, 0) = 2
            mark(11, 2, 50, 4) = 3
            mark(1, 1, 77, 4) = 4
            sheet(0, 0, 14) = 14
            put(0, 0, 12, 9) = 1
            write(2, 0) = 12
            get(0, 0, 0) = 100
            get(0, 0, 1) = -1
            get(0, 0, 3) = 0
            get(0, 0, 10) = -1
            get(0, 0, 11) = 50
            get(0, 0, 12) = 9
            sheet(1, 2, 3) = 3
            write(1, 1) = 3
            get(1, 2, 0) = -1
            get(1, 2, 1) = 77
            get(1, 2, 2) = -1
            sheet(2, 1, 0) = 0
            write(1, 2) = 0
            asOf(3)
            write(2, 0) = 12
            get(0, 0, 0) = 100
            get(0, 0, 11) = -1
            count(1) = 4
            """);
    }

    private static void counts() {
        Runs.run("34 count", """
            count(-1) = BAD
            count(9) = BAD
            mark(0, 0, 10, 2) = 1
            mark(0, 1, 10, 2) = 2
            mark(5, 1, 10, 3) = 3
            mark(11, 3, 10, 4) = 4
            mark(7, 0, 10, 6) = 5
            mark(7, 0, -1, 9) = 6
            asOf(8)
            type(65)
            type(61)
            type(1)
            count(0) = 5
            count(1) = 6
            count(2) = 8
            count(3) = 9
            count(4) = 2
            count(5) = 3
            count(6) = 5
            count(7) = 2209                # 1 and 32 and 128 and 2048
            count(8) = 0
            asOf(999)
            count(0) = 4
            count(7) = 2081
            sheet(0, 0, -1) = SIZE
            count(8) = 5
            count(10) = BAD
            count(8) = 5
            sheet(0, 0, 1) = 1
            count(8) = 5
            """);
    }

    /** Digests that the tests under ../shared tell, and what must not change them. */
    private static void digests() {
        Runs.run("35 digest", """
            mark(0, 0, 50, 0) = 1
            mark(1, 1, 51, 0) = 2
            mark(2, 2, 52, 0) = 3
            mark(3, 3, 53, 0) = 4
            mark(1, 0, 55, 5) = 5
            mark(1, 0, -1, 7) = 6
            digest() = -6989091837002628842
            price(0, 9)
            sheet(1, 0, -1) = SIZE
            sheet(1, 0, 4) = 4
            digest() = -6989091837002628842
            next(0)
            without(0, 0, 0)
            digest() = -6989091837002628842
            """);
        long none = nothing(0, 0);
        Runs.run("35 digest with a fault", "digest() = " + none + "\ntype(\"A=5x\")\ndigest() = " + nothing(4, 3)
            + "\ntype(\"A=5\")\ndigest() = " + nothing(3, -1) + "\n");
    }

    /** The digest where no marks were told and grades have so many bytes and that fault. */
    private static long nothing(int bytes, int fault) {
        long none = Long.MIN_VALUE + 3;
        long h = 17;
        for (int i = 0; i < 8; i++) {
            h = 31 * h + (i == 2 ? 999 : i == 5 ? bytes : 0);
        }
        for (int s = 0; s < 12; s++) {
            for (int m = 0; m < 4; m++) {
                h = 31 * h - 1;
            }
            h = 31 * (31 * h + none) + none;
        }
        for (int i = 0; i < 4 * 2 + 4; i++) {
            h = 31 * h + none;
        }
        return 31 * (31 * h + fault) - 1;
    }

    private static void digestOfNothing() {
        long h = nothing(0, 0);
        Runs.run("35 digest of nothing", "digest() = " + h + "\nlose(0) = NULL\ndigest() = " + h + "\n");
    }
}
