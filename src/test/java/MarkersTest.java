/** Promises 24 to 27: drift, agree, odd, without. */
public final class MarkersTest {
    /** Each two of three markers share a script; fits are -1/2 or 1/2. */
    private static final String RING = """
        mark(0, 0, 10, 0) = 1
        mark(0, 1, 8, 0) = 2
        mark(1, 1, 10, 0) = 3
        mark(1, 2, 9, 0) = 4
        mark(2, 0, 10, 0) = 5
        mark(2, 2, 4, 0) = 6
        """;

    public static void main(String[] args) {
        drifts();
        driftsByOrder();
        agrees();
        chances();
        odds();
        withouts();
        withoutOfTwoParts();
        Runs.end();
    }

    private static void drifts() {
        Runs.run("24 drift", """
            mark(0, 0, 10, 0) = 1
            mark(0, 1, 10, 0) = 2
            drift(0, 0) = NOT
            mark(1, 0, 20, 1) = 3
            mark(1, 1, 24, 1) = 4
            drift(0) = -2/1                # hard(1) is -2; fits of 0: 1, -1
            drift(1) = 2/1
            drift(2, 0) = NOT
            drift(-1, 0) = BAD
            drift(4, 0) = BAD
            drift(0, 2) = BAD
            drift(0, -1) = BAD
            drift(2, 2) = BAD
            mark(2, 0, 20, 1) = 5          # of three the middle one is aside
            drift(0) = -1/1
            mark(3, 0, 1, 1) = 6
            drift(0) = 0/1
            """);
    }

    private static void driftsByOrder() {
        Runs.run("24 drift by the order told", """
            mark(1, 0, 20, 0) = 1
            mark(1, 1, 24, 0) = 2
            mark(0, 0, 10, 0) = 3
            mark(0, 1, 10, 0) = 4
            drift(0) = 2/1                 # not by scripts
            mark(1, 0, 20, 5) = 5          # told again: it is the later one now
            drift(0) = -2/1
            drift(1) = -2/1
            asOf(4)
            drift(0) = 2/1
            asOf(999)
            mark(0, 0, -1, 6) = 6
            mark(0, 0, 10, 7) = 7
            drift(0) = 2/1
            """);
    }

    private static void agrees() {
        Runs.run("25 agree", """
            mark(0, 0, 10, 0) = 1
            mark(0, 2, 5, 0) = 2
            agree(0, 2, 0) = NOT
            agree(0, 2, 1) = NOT
            mark(3, 0, 20, 0) = 3
            mark(3, 2, 5, 0) = 4
            agree(0, 2, 0) = 0             # like ones are aside
            agree(0, 2, 1) = 1000000
            mark(4, 0, 30, 0) = 5
            mark(4, 2, 4, 0) = 6
            agree(0, 2, 0) = -2
            agree(2, 0, 0) = -2
            mark(5, 0, 40, 0) = 7          # marked by one alone
            mark(6, 2, 40, 0) = 8
            agree(0, 2, 0) = -2
            agree(0, 1, 0) = NOT
            agree(0, 0, 0) = BAD
            agree(1, 1, 0) = BAD
            agree(-1, 0, 0) = BAD
            agree(4, 0, 0) = BAD
            agree(0, -1, 0) = BAD
            agree(0, 4, 0) = BAD
            agree(0, 2, 2) = BAD
            agree(0, 2, -1) = BAD
            agree(0, 1, 2) = BAD
            """);
    }

    private static String likeOrders(int scripts) {
        StringBuilder text = new StringBuilder();
        for (int s = 0; s < scripts; s++) {
            text.append("mark(" + s + ", 1, " + (10 + s) + ", 0)\n");
            text.append("mark(" + s + ", 3, " + (60 + 3 * s) + ", 0)\n");
        }
        return text.toString();
    }

    private static void chances() {
        Runs.run("25 chance of 2", likeOrders(2) + "agree(1, 3, 0) = 1\nagree(1, 3, 1) = 500000\n");
        Runs.run("25 chance of 3", likeOrders(3) + "agree(1, 3, 0) = 3\nagree(1, 3, 1) = 166666\n");
        Runs.run("25 chance of 5", likeOrders(5) + "agree(1, 3, 0) = 10\nagree(1, 3, 1) = 8333\n");
        Runs.run("25 chance of 7", likeOrders(7) + "agree(3, 1, 0) = 21\nagree(3, 1, 1) = 198\n");
        Runs.run("25 chance of 8", likeOrders(8) + """
            agree(1, 3, 0) = 28
            agree(1, 3, 1) = FULL
            agree(1, 3, 2) = BAD
            agree(1, 0, 1) = NOT
            """);
        Runs.run("25 chance of 12", likeOrders(12) + "agree(1, 3, 0) = 66\nagree(1, 3, 1) = FULL\n");
        Runs.run("25 chance with one pair turned", likeOrders(3) + """
            mark(0, 3, 64, 0)
            agree(1, 3, 0) = 1             # 1 2 3, 1 3 2, 2 1 3 of six orders are as much or more
            agree(1, 3, 1) = 500000
            """);
        Runs.run("25 chance with the least agreement", likeOrders(4) + """
            mark(0, 1, 99, 0)
            mark(1, 1, 98, 0)
            mark(2, 1, 97, 0)
            mark(3, 1, 96, 0)
            agree(1, 3, 0) = -6
            agree(1, 3, 1) = 1000000
            """);
        Runs.run("25 chance with like marks of both", """
            mark(0, 0, 10, 0)
            mark(1, 0, 10, 0)
            mark(2, 0, 20, 0)
            mark(0, 1, 5, 0)
            mark(1, 1, 5, 0)
            mark(2, 1, 9, 0)
            agree(0, 1, 0) = 2             # 2 where 2 has the 9, -1 elsewhere
            agree(0, 1, 1) = 333333
            agree(1, 0, 1) = 333333
            mark(0, 1, 9, 0)
            mark(2, 1, 5, 0)
            agree(0, 1, 0) = -1
            agree(0, 1, 1) = 1000000
            """);
        Runs.run("25 chance where agreements are even and odd", """
            mark(0, 0, 10, 0)
            mark(1, 0, 10, 0)
            mark(2, 0, 11, 0)
            mark(3, 0, 12, 0)
            mark(0, 1, 50, 0)
            mark(1, 1, 52, 0)
            mark(2, 1, 51, 0)
            mark(3, 1, 51, 0)
            agree(0, 1, 0) = 0             # -4 -2 2 4 four times each, 0 four times, -1 and 1 twice
            agree(0, 1, 1) = 583333
            """);
        Runs.run("25 chance with like marks", likeOrders(3) + """
            mark(0, 3, 66, 0)
            agree(1, 3, 0) = 0             # of 66 63 66: 0; of 63 66 66: 2; of 66 66 63: -2
            agree(1, 3, 1) = 666666
            """);
    }

    private static void odds() {
        Runs.run("26 odd", """
            odd() = NONE
            mark(7, 2, 50, 0) = 1
            odd() = 30
            mark(3, 3, 50, 0) = 2
            odd() = 15                     # none is off: the least script
            mark(0, 0, 10, 1) = 3
            mark(0, 1, 10, 1) = 4
            mark(1, 0, 20, 1) = 5
            mark(1, 1, 24, 1) = 6
            odd() = 0                      # all four by 1
            mark(2, 0, 20, 2) = 7
            mark(2, 1, 30, 2) = 8
            odd() = 8                      # differences 0, -4, -10: fits -7/3, -1/3, 8/3 and so on
            asOf(0)
            odd() = 15
            """);
        Runs.run("26 odd in a later bundle", """
            mark(0, 0, 10, 0) = 1
            mark(0, 1, 10, 0) = 2
            mark(1, 0, 20, 0) = 3
            mark(1, 1, 24, 0) = 4
            mark(5, 2, 10, 0) = 5
            mark(5, 3, 10, 0) = 6
            mark(6, 2, 20, 0) = 7
            mark(6, 3, 25, 0) = 8
            odd() = 22
            mark(5, 3, -1, 1) = 9
            odd() = 0
            """);
    }

    private static void withouts() {
        Runs.run("27 without", RING + """
            without(0, 0) = 0/1
            without(2, 2) = 0/1
            off(0) = 3/1                   # and all is as it was
            has(0, 0) = 10
            without(0, 2) = NOT/NOT
            without(3, 0) = NOT/NOT
            without(-1, 0, 0) = BAD
            without(12, 0, 0) = BAD
            without(0, -1, 0) = BAD
            without(0, 4, 0) = BAD
            without(0, 0, 2) = BAD
            without(0, 0, -1) = BAD
            mark(3, 2, 77, 1) = 7
            without(3, 2) = 3/1            # a script that has none then
            mark(4, 3, 77, 1) = 8
            without(4, 3) = 0/1            # a bundle of one mark
            """);
    }

    /** Two rings of four, off by 2 and by 6, and script 4 between them. */
    private static void withoutOfTwoParts() {
        Runs.run("27 without a bridge", """
            mark(0, 0, 60, 0) = 1
            mark(0, 1, 50, 0) = 2
            mark(1, 0, 70, 0) = 3
            mark(1, 1, 62, 0) = 4
            mark(2, 2, 60, 0) = 5
            mark(2, 3, 50, 0) = 6
            mark(3, 2, 70, 0) = 7
            mark(3, 3, 66, 0) = 8
            off(0) = 2/1
            off(2) = 6/1
            without(0, 0) = 0/1            # not the other bundle's
            without(3, 3) = 0/1
            mark(4, 1, 40, 0) = 9
            mark(4, 2, 30, 0) = 10
            off(0) = 8/1
            without(4, 1) = 8/1            # of both bundles that it is then
            without(4, 2) = 8/1
            without(0, 0) = 6/1
            without(3, 2) = 2/1
            """);
        Runs.run("27 without, where markers hang together over marker 0", """
            mark(0, 0, 60, 0) = 1
            mark(0, 1, 50, 0) = 2
            mark(1, 0, 70, 0) = 3
            mark(1, 1, 62, 0) = 4
            mark(2, 0, 60, 0) = 5
            mark(2, 2, 50, 0) = 6
            mark(3, 0, 70, 0) = 7
            mark(3, 2, 66, 0) = 8
            off(0) = 8/1
            without(0, 1) = 6/1
            without(2, 2) = 2/1
            """);
    }
}
