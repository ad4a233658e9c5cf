/** Promises 18 to 23: doubt, worst, next, bridge, price, tied. */
public final class DoubtsTest {
    /** Scripts 0, 1, 2 in a row, with markers 0 and 1 between them. */
    private static final String CHAIN = """
        mark(0, 0, 10, 0) = 1
        mark(1, 0, 20, 0) = 2
        mark(1, 1, 30, 0) = 3
        mark(2, 1, 40, 0) = 4
        """;

    public static void main(String[] args) {
        doubts();
        worsts();
        nexts();
        nextOfSeveralBundles();
        bridges();
        prices();
        ties();
        tiesByPrice();
        Runs.end();
    }

    private static void doubts() {
        Runs.run("18 doubt", CHAIN + """
            doubt(0, 1) = 2/1
            doubt(1, 2) = 2/1
            doubt(0, 2) = 4/1
            doubt(2, 0) = 4/1
            doubt(0, 3) = NOT/NOT
            doubt(3, 4, 0) = NOT
            doubt(0, 0, 0) = BAD
            doubt(3, 3, 0) = BAD           # ahead of NOT
            doubt(-1, 0, 0) = BAD
            doubt(12, 0, 0) = BAD
            doubt(0, -1, 0) = BAD
            doubt(0, 12, 0) = BAD
            doubt(0, 1, 2) = BAD
            doubt(0, 1, -1) = BAD
            mark(3, 2, 5, 1) = 5           # of another bundle
            doubt(0, 3, 0) = NOT
            mark(0, 1, 0, 2) = 6           # a ring of four, and 2 behind it
            doubt(0, 1) = 1/1
            doubt(0, 2) = 7/4
            doubt(1, 2) = 7/4
            """);
        Runs.run("18 doubt over three hands", """
            mark(4, 0, 1, 0) = 1
            mark(4, 1, 99, 0) = 2
            mark(4, 3, 5, 0) = 3
            mark(9, 0, 7, 0) = 4
            mark(9, 1, 7, 0) = 5
            mark(9, 3, 50, 0) = 6
            doubt(4, 9) = 2/3
            mark(9, 3, -1, 1) = 7
            doubt(9, 4) = 1/1
            """);
        Runs.run("18 doubt over four hands and three", """
            mark(0, 0, 1, 0) = 1
            mark(0, 1, 1, 0) = 2
            mark(0, 2, 1, 0) = 3
            mark(0, 3, 1, 0) = 4
            mark(1, 0, 1, 0) = 5
            mark(1, 1, 1, 0) = 6
            mark(1, 2, 1, 0) = 7
            doubt(0, 1) = 2/3              # what hangs on 0 alone leads nowhere
            mark(2, 1, 1, 0) = 8
            mark(2, 2, 1, 0) = 9
            mark(2, 3, 1, 0) = 10
            doubt(0, 1) = 22/35
            doubt(0, 2) = 22/35
            doubt(1, 2) = 4/5
            """);
    }

    private static void worsts() {
        Runs.run("19 worst", """
            worst(0) = NOT
            worst(-1) = BAD
            worst(4) = BAD
            mark(5, 2, 1, 0) = 1
            worst(0) = NOT
            worst(3) = NOT
            mark(6, 3, 1, 0) = 2
            worst(2) = NOT                 # two scripts, but not of one bundle
            mark(8, 3, 1, 0) = 3
            worst() = 2/1
            worst(2) = 6
            worst(3) = 8
            mark(7, 3, 1, 0) = 4           # of like ones the least second
            worst(2) = 6
            worst(3) = 7
            mark(4, 2, 1, 0) = 5           # of like ones the least first
            worst(2) = 4
            worst(3) = 5
            """);
        Runs.run("19 worst of a chain", CHAIN + """
            worst() = 4/1
            worst(2) = 0
            worst(3) = 2
            mark(0, 1, 0, 2) = 5
            worst() = 7/4
            worst(2) = 0
            worst(3) = 2
            mark(9, 2, 0, 2) = 6
            mark(10, 2, 0, 2) = 7          # the greatest is in the later bundle
            worst() = 2/1
            worst(2) = 9
            worst(3) = 10
            """);
    }

    private static void nexts() {
        Runs.run("20 next", """
            next(-1) = BAD
            next(4) = BAD
            next(0) = NOT
            mark(0, 0, 10, 0) = 1
            next(0) = NOT                  # no worst
            mark(1, 0, 20, 0) = 2
            next(0) = NOT                  # no pair without a mark
            mark(1, 1, 30, 0) = 3
            next(0) = 0                    # a ring of four
            next(1) = 1
            next(2) = 1
            next(3) = 1
            mark(2, 1, 40, 0) = 4
            next(0) = 0                    # 0 by 1 does as much as 2 by 0
            next(1) = 1
            next(2) = 7
            next(3) = 4
            mark(0, 1, 0, 1) = 5
            next(0) = 2
            next(1) = 0
            next(2) = 1
            next(3) = 1
            mark(2, 0, 0, 1) = 6
            next(0) = NOT
            next(3) = NOT
            next(5) = BAD
            asOf(0)
            next(0) = 0
            next(2) = 7
            """);
        Runs.run("20 next, the first pair of all", """
            mark(0, 1, 1, 0) = 1
            mark(1, 0, 1, 0) = 2
            mark(1, 1, 1, 0) = 3
            next(0) = 0
            next(1) = 0
            next(2) = 1
            next(3) = 1
            """);
        Runs.run("20 next, where the far end is joined to the middle", """
            mark(0, 0, 1, 0) = 1
            mark(0, 1, 1, 0) = 2
            mark(1, 0, 1, 0) = 3
            mark(1, 1, 1, 0) = 4
            mark(2, 1, 1, 0) = 5
            mark(3, 1, 1, 0) = 6
            mark(3, 2, 1, 0) = 7
            mark(4, 2, 1, 0) = 8
            worst() = 4/1
            worst(2) = 2
            worst(3) = 4
            next(0) = 4                    # a ring of 4, 3 and markers 1, 2: then 2 is worst
            next(1) = 1
            next(2) = 7
            next(3) = 4
            """);
    }

    private static void nextOfSeveralBundles() {
        Runs.run("20 next, two bundles", CHAIN + """
            mark(3, 2, 10, 0) = 5
            mark(4, 2, 20, 0) = 6
            mark(4, 3, 30, 0) = 7
            mark(5, 3, 40, 0) = 8
            worst() = 4/1
            next(0) = 0                    # the other bundle's worst stays, whatever is marked
            next(1) = 1
            next(2) = 4
            next(3) = 1
            mark(2, 0, 1, 1) = 9
            worst() = 4/1
            worst(2) = 3
            next(0) = 3                    # 3 by 3, in the later bundle; the earlier one has less
            next(1) = 3
            next(2) = 7
            next(3) = 4
            """);
    }

    private static void bridges() {
        Runs.run("21 bridge", CHAIN + """
            bridge(0, 0) = 1
            bridge(1, 0) = 1
            bridge(1, 1) = 1
            bridge(2, 1) = 1
            count(6) = 4
            bridge(0, 1) = NOT
            bridge(3, 0) = NOT
            bridge(-1, 0) = BAD
            bridge(12, 0) = BAD
            bridge(0, -1) = BAD
            bridge(0, 4) = BAD
            mark(0, 1, 7, 1) = 5
            bridge(0, 0) = 0
            bridge(0, 1) = 0
            bridge(1, 0) = 0
            bridge(1, 1) = 0
            bridge(2, 1) = 1
            count(6) = 1
            mark(7, 3, 7, 1) = 6           # alone: nothing is left without it
            bridge(7, 3) = 1
            count(6) = 2
            """);
        Runs.run("21 bridge over a ring of three markers", """
            mark(0, 0, 1, 0) = 1
            mark(0, 1, 1, 0) = 2
            mark(1, 1, 1, 0) = 3
            mark(1, 2, 1, 0) = 4
            mark(2, 2, 1, 0) = 5
            mark(2, 0, 1, 0) = 6
            mark(3, 2, 1, 0) = 7
            mark(3, 3, 1, 0) = 8
            bridge(0, 0) = 0
            bridge(1, 2) = 0
            bridge(2, 0) = 0
            bridge(3, 2) = 1               # between two bundles that would be
            bridge(3, 3) = 1
            count(6) = 2
            """);
    }

    private static void prices() {
        Runs.run("22 price", """
            price(0, 0) = 1
            price(0, 99) = 0
            price(0, 100) = BAD
            price(0, -1) = BAD
            price(-1, 5) = BAD
            price(4, 5) = BAD
            price(0, 7) = 99
            price(3, 7) = 1
            """);
    }

    private static void ties() {
        Runs.run("23 tied", """
            tied(-1) = 0
            tied(-2) = BAD
            tied(LEAST) = BAD
            tied(GREATEST) = NONE
            mark(5, 3, 1, 0) = 1
            tied(-1) = 0
            tied(0) = NONE
            mark(2, 1, 1, 0) = 2
            tied(-1) = 1
            tied(0) = 11                   # script 2, marker 3
            tied(1) = NONE
            mark(7, 2, 1, 0) = 3
            tied(-1) = 2
            tied(0) = 10                   # script 2, marker 2
            tied(1) = 11
            tied(2) = NONE
            mark(7, 1, 1, 0) = 4           # one bundle less
            tied(-1) = 1
            tied(0) = 11
            tied(1) = NONE
            mark(0, 3, 1, 0) = 5
            tied(0) = 1                    # script 0, marker 1
            """);
        Runs.run("23 tied, four bundles", """
            mark(8, 0, 1, 0) = 1
            mark(1, 1, 1, 0) = 2
            mark(2, 2, 1, 0) = 3
            mark(3, 3, 1, 0) = 4
            tied(-1) = 3
            tied(0) = 4                    # script 1 by markers 0, 2, 3
            tied(1) = 6
            tied(2) = 7
            tied(3) = NONE
            price(0, 5) = 1
            tied(-1) = 3
            tied(0) = 6
            tied(1) = 7
            tied(2) = 33                   # script 8, marker 1
            price(1, 5) = 1
            price(2, 5) = 1
            price(3, 4) = 1
            tied(-1) = 12
            tied(0) = 7
            tied(1) = 11
            tied(2) = 35
            mark(0, 3, 1, 0) = 5
            price(0, 3) = 5
            tied(0) = 0                    # the first pair of all
            tied(1) = 4
            tied(2) = 8
            """);
    }

    private static void tiesByPrice() {
        Runs.run("23 tied by price", """
            mark(1, 1, 1, 0) = 1
            mark(4, 2, 1, 0) = 2
            mark(6, 3, 1, 0) = 3
            price(0, 0) = 1                # marked nothing, so it joins nothing
            price(1, 50) = 1
            price(2, 20) = 1
            price(3, 99) = 1
            tied(-1) = 40
            tied(0) = 6                    # script 1, marker 2
            tied(1) = 26                   # script 6, marker 2
            tied(2) = NONE
            price(1, 20) = 50
            tied(0) = 6
            tied(1) = 25                   # script 6, marker 1: as cheap, and less than marker 2
            price(1, 19) = 20
            tied(-1) = 38
            tied(0) = 17
            tied(1) = 25
            price(3, 0) = 99
            tied(-1) = 0
            tied(0) = 7
            tied(1) = 19
            """);
    }
}
