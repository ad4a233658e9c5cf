/** The boundaries of part 4 and of promises 18 to 23: doubt, worst, next, bridge, price, tied. */
final class DoubtsEdges {
    private static final String ALL = "EMPTY BUSY FULL";

    /** Four bundles of one mark each. */
    private static final String FOUR = """
        mark(8, 0, 50, 0) = 1
        mark(1, 1, 50, 0) = 2
        mark(2, 2, 50, 0) = 3
        mark(3, 3, 50, 0) = 4
        """;

    private DoubtsEdges() {
    }

    static void run() {
        doubtBetween();
        worstOfAll();
        likeWorsts();
        nextPairs();
        likeNexts();
        bridgeKinds();
        prices();
        tiesAtLeastCost();
        whichTies();
        doubt();
        worst();
        next();
        bridge();
        price();
        tied();
    }

    private static void doubtBetween() {
        String words = """
            ======== 4 DOUBT between two SCRIPTS of a BUNDLE: by how much the squares of what their WORTHS differ by
            scatter, if each MARK does so by 1, each by itself: as a net in which each MARK is a way of resistance 1
            between SCRIPT and MARKER, the resistance from the one SCRIPT to the other; a FRACTION.""";
        Edges.edge(0, words, TermsEdges.LONGEST + """
            doubt(0, 4) = 8/1              # the most there can be: eight marks in a row
            doubt(0, 3) = 6/1
            doubt(0, 2) = 4/1
            doubt(0, 1) = 2/1
            doubt(4, 0) = 8/1
            """);
        Edges.edge(0, words, TermsEdges.everyMark() + """
            doubt(0, 11) = 1/2             # the least: four hands on both
            doubt(5, 6) = 1/2
            mark(11, 3, -1, 1) = 49
            doubt(0, 11) = 13/22           # over three hands, and a little over the fourth
            doubt(11, 0) = 13/22           # from the other end too
            doubt(0, 1) = 1/2
            """);
        Edges.edge(0, words, """
            mark(0, 0, 1, 0) = 1
            mark(0, 1, 1, 0) = 2
            mark(0, 2, 1, 0) = 3
            mark(0, 3, 1, 0) = 4
            mark(1, 0, 1, 0) = 5
            mark(1, 1, 1, 0) = 6
            mark(1, 2, 1, 0) = 7
            doubt(0, 1) = 2/3              # the fourth hand leads nowhere
            mark(2, 1, 1, 0) = 8
            mark(2, 2, 1, 0) = 9
            mark(2, 3, 1, 0) = 10
            doubt(0, 1) = 22/35            # now it leads to script 2
            doubt(1, 0) = 22/35
            doubt(1, 2) = 4/5
            """);
        Edges.edge(0, words, """
            mark(0, 0, 0, 0) = 1
            mark(1, 0, 100, 0) = 2
            doubt(0, 1) = 2/1              # by one hand
            mark(0, 1, 100, 0) = 3
            doubt(0, 1) = 2/1              # a hand that knows one of both says nothing
            mark(1, 1, 0, 0) = 4
            doubt(0, 1) = 1/1              # by two
            mark(0, 2, 50, 0) = 5
            mark(1, 2, 50, 0) = 6
            doubt(0, 1) = 2/3
            """);
    }

    private static void worstOfAll() {
        String words = "WORST: the greatest DOUBT of two SCRIPTS of all BUNDLES;";
        Edges.edge(0, words, """
            mark(0, 0, 1, 0) = 1
            mark(1, 1, 1, 0) = 2
            worst(0) = NOT                 # two scripts of two bundles
            mark(10, 3, 1, 0) = 3
            mark(11, 3, 1, 0) = 4
            worst() = 2/1
            worst(2) = 10
            worst(3) = 11
            """);
        Edges.edge(0, words, TermsEdges.LONGEST + """
            worst() = 8/1
            worst(2) = 0
            worst(3) = 4
            """);
        Edges.edge(0, words, TermsEdges.everyMark() + """
            worst() = 1/2
            worst(2) = 0
            worst(3) = 1
            """);
    }

    private static void likeWorsts() {
        String words = "the two (the lesser first), of like ones the least first, then the least second.";
        Edges.edge(0, words, """
            mark(9, 1, 1, 0) = 1
            mark(7, 1, 1, 0) = 2
            worst(2) = 7
            worst(3) = 9
            mark(11, 1, 1, 0) = 3
            worst(2) = 7
            worst(3) = 9                   # 7 and 9, 7 and 11, 9 and 11 are alike
            mark(8, 1, 1, 0) = 4
            worst(3) = 8
            mark(6, 2, 1, 0) = 5
            mark(10, 2, 1, 0) = 6
            worst(2) = 6                   # 6 and 10, of the later bundle
            worst(3) = 10
            """);
    }

    private static void nextPairs() {
        String words = """
            NEXT MARK: of pairs of a SCRIPT and a MARKER that have no MARK, each of the same BUNDLE,
            the one with which (the MARK itself does not matter) WORST of all is least,""";
        Edges.edge(0, words, """
            mark(0, 0, 1, 0) = 1
            mark(1, 0, 1, 0) = 2
            mark(5, 3, 1, 0) = 3
            worst() = 2/1
            next(0) = NOT                  # 0 by 3 has no mark, but they are of two bundles
            mark(5, 0, 1, 0) = 4
            next(0) = 0
            next(1) = 3
            next(2) = 7
            next(3) = 4
            """);
        Edges.edge(0, words, TermsEdges.LONGEST + """
            next(0) = 0                    # the two ends are made one ring
            next(1) = 0
            next(2) = 23                   # but for script 4 behind marker 0
            next(3) = 8
            """);
        Edges.edge(0, words, """
            mark(0, 0, 1, 0) = 1
            mark(0, 1, 1, 0) = 2
            mark(1, 0, 1, 0) = 3
            mark(1, 1, 1, 0) = 4
            mark(2, 1, 1, 0) = 5
            mark(3, 1, 1, 0) = 6
            mark(3, 2, 1, 0) = 7
            mark(4, 2, 1, 0) = 8
            worst() = 4/1
            next(0) = 4                    # the last pair but one: those ahead leave a worse one
            next(1) = 1
            next(2) = 7
            next(3) = 4
            """);
        Edges.edge(0, words, TermsEdges.everyMark() + """
            next(0) = NOT                  # no pair is left
            mark(11, 3, -1, 1) = 49
            next(0) = 11                   # the last pair of all
            next(1) = 3
            next(2) = 1
            next(3) = 2
            mark(11, 3, 0, 1) = 50
            mark(0, 0, -1, 1) = 51
            next(0) = 0                    # the first
            next(1) = 0
            next(2) = 1
            next(3) = 2
            """);
    }

    private static void likeNexts() {
        String words = "of like ones the least SCRIPT, then the least MARKER; the WORST with it.";
        Edges.edge(0, words, """
            mark(6, 1, 1, 0) = 1
            mark(6, 2, 1, 0) = 2
            mark(6, 3, 1, 0) = 3
            mark(4, 1, 1, 0) = 4
            mark(5, 1, 1, 0) = 5
            worst() = 2/1
            next(0) = 4                    # 4 or 5, by 2 or 3: the worst is 2 (4 and 5 by hand 1) or less
            next(1) = 2
            next(2) = 7
            next(3) = 4
            """);
        Edges.edge(0, words, """
            mark(0, 0, 1, 0) = 1
            mark(1, 0, 1, 0) = 2
            mark(1, 1, 1, 0) = 3
            mark(3, 2, 1, 0) = 4
            mark(4, 2, 1, 0) = 5
            mark(4, 3, 1, 0) = 6
            next(0) = 0                    # 0 by 1 and 3 by 3 leave the other's worst alike
            next(1) = 1
            next(2) = 2
            next(3) = 1
            """);
    }

    private static void bridgeKinds() {
        String words = "BRIDGE: a MARK without which its BUNDLE would be two BUNDLES, "
            + "or leave some SCRIPT or MARKER with none.";
        Edges.edge(0, words, TermsEdges.LONGEST + """
            bridge(2, 1) = 1               # two bundles
            bridge(0, 3) = 1               # script 0 with none
            bridge(4, 0) = 1
            count(6) = 8
            mark(4, 3, 50, 2) = 9          # a ring of all but script 0
            bridge(2, 1) = 0
            bridge(4, 0) = 0
            bridge(4, 3) = 0
            bridge(0, 3) = 1
            count(6) = 1
            mark(0, 0, 50, 3) = 10
            count(6) = 0
            """);
        Edges.edge(0, words, """
            mark(5, 2, 50, 0) = 1
            bridge(5, 2) = 1               # both with none
            mark(5, 3, 50, 0) = 2
            bridge(5, 3) = 1               # marker 3 with none
            bridge(5, 2) = 1               # marker 2 with none
            mark(6, 2, 50, 0) = 3
            mark(6, 3, 50, 0) = 4
            bridge(5, 2) = 0
            bridge(6, 3) = 0
            count(6) = 0
            """);
    }

    private static void prices() {
        String words = """
            TIED: which marks more (each by a SCRIPT and a MARKER; a MARKER costs so much a mark, told,
            0 to 99; 1 at first)""";
        Edges.edge(0, words, FOUR + """
            tied(-1) = 3                   # 1 at first
            price(0, 99) = 1
            price(1, 99) = 1
            price(2, 99) = 1
            price(3, 99) = 1
            tied(-1) = 297                 # the most there can be
            price(0, 100) = BAD
            price(1, -1) = BAD
            tied(-1) = 297
            price(0, 0) = 99
            price(1, 0) = 99
            price(2, 0) = 99
            price(3, 0) = 99
            tied(-1) = 0                   # marks for nothing
            tied(2) = 7
            tied(3) = NONE
            """);
    }

    private static void tiesAtLeastCost() {
        String words = """
            make all MARKERS that have MARKS, and all SCRIPTS that have, hang together, at least cost; the cost.""";
        Edges.edge(0, words, """
            tied(-1) = 0                   # of nothing
            tied(0) = NONE
            mark(4, 2, 50, 0) = 1
            tied(-1) = 0                   # of one bundle
            tied(0) = NONE
            mark(5, 1, 50, 0) = 2
            tied(-1) = 1                   # markers 0 and 3 have no marks, nor have the other scripts
            tied(0) = 17
            tied(1) = NONE
            """);
        Edges.edge(0, words, TermsEdges.everyMark() + "tied(-1) = 0\ntied(0) = NONE\n");
        Edges.edge(0, words, FOUR + """
            price(0, 50) = 1
            price(1, 60) = 1
            price(2, 70) = 1
            price(3, 80) = 1
            tied(-1) = 150                 # the cheapest hand marks a script of each other bundle
            """);
        Edges.edge(0, words, FOUR + """
            asOf(0)
            mark(1, 0, 50, 5) = 5          # not yet
            tied(-1) = 3
            asOf(5)
            tied(-1) = 2
            tied(2) = NONE
            """);
    }

    private static void whichTies() {
        String words = """
            WHICH: each time, of marks that join two BUNDLES, the cheapest, of like ones the least SCRIPT,
            then the least MARKER.""";
        Edges.edge(0, words, FOUR + """
            tied(0) = 4                    # script 1 by marker 0
            tied(1) = 6                    # by marker 2
            tied(2) = 7                    # by marker 3
            tied(3) = NONE
            price(3, 0) = 1
            tied(0) = 7                    # the cheapest: scripts 1, 2, 8 by marker 3
            tied(1) = 11
            tied(2) = 35
            price(2, 0) = 1
            tied(0) = 6                    # as cheap, and the lesser marker: script 1 by 2, then by 3
            tied(1) = 7
            tied(2) = 34                   # script 8 by 2: 2 by 3 joins nothing any more
            tied(-1) = 0
            """);
        Edges.edge(0, words, """
            mark(11, 0, 50, 0) = 1
            mark(0, 3, 50, 0) = 2
            tied(0) = 0                    # the first pair there is
            price(0, 2) = 1
            tied(0) = 47                   # the last
            tied(-1) = 1
            """);
        Edges.edge(0, words, """
            mark(3, 1, 50, 0) = 1
            mark(5, 2, 50, 0) = 2
            price(0, 0) = 1                # a mark by it, without any so far, joins no two bundles
            price(3, 0) = 1
            price(1, 99) = 1
            price(2, 98) = 1
            tied(-1) = 98
            tied(0) = 14                   # script 3 by marker 2
            tied(1) = NONE
            mark(7, 0, 50, 0) = 3
            tied(-1) = 0                   # now it has one, and marks scripts 3 and 5 for nothing
            tied(0) = 12
            tied(1) = 20
            tied(2) = NONE
            """);
    }

    private static void doubt() {
        Edges.edge(18, "DOUBT: above, below.", """
            mark(0, 3, 1, 0) = 1
            mark(11, 3, 1, 0) = 2
            doubt(0, 11) = 2/1
            doubt(11, 0) = 2/1
            mark(0, 2, 1, 0) = 3
            mark(11, 2, 1, 0) = 4
            mark(0, 1, 1, 0) = 5
            mark(11, 1, 1, 0) = 6
            doubt(0, 11) = 2/3
            """);
        Edges.refused(18, "BAD: also a SCRIPT with itself;", ALL, """
            doubt(-1, 0, 0) = BAD
            doubt(12, 0, 0) = BAD
            doubt(LEAST, 0, 0) = BAD
            doubt(GREATEST, 0, 0) = BAD
            doubt(0, -1, 0) = BAD
            doubt(0, 12, 0) = BAD
            doubt(0, LEAST, 0) = BAD
            doubt(0, GREATEST, 0) = BAD
            doubt(0, 1, -1) = BAD
            doubt(0, 1, 2) = BAD
            doubt(0, 0, 0) = BAD           # with itself
            doubt(11, 11, 1) = BAD
            """);
        Edges.refused(18, "NOT: they are not of one BUNDLE.", "EMPTY", """
            doubt(0, 1, 0) = NOT
            doubt(11, 10, 1) = NOT
            """);
        Edges.refused(18, "NOT: they are not of one BUNDLE.", "BUSY", """
            doubt(0, 6, 0) = NOT           # of two
            doubt(0, 3, 0) = NOT           # one of none
            doubt(3, 0, 1) = NOT
            doubt(3, 4, 0) = NOT           # both of none
            doubt(7, 11, 0) = NOT          # not as of 7
            """);
        Edges.edge(18, "(As the least long.)", """
            doubt(0, 0, 0) = -9223372036854775806
            doubt(0, 1, 0) = -9223372036854775805
            """);
    }

    private static void worst() {
        Edges.edge(19, "WORST: 0 above, 1 below, 2, 3 the SCRIPTS.", """
            mark(3, 1, 1, 0) = 1
            mark(4, 1, 1, 0) = 2
            mark(3, 2, 1, 0) = 3
            mark(4, 2, 1, 0) = 4
            mark(3, 3, 1, 0) = 5
            mark(4, 3, 1, 0) = 6
            worst(0) = 2
            worst(1) = 3
            worst(2) = 3
            worst(3) = 4
            """);
        Edges.refused(19, "BAD;", ALL, "worst(-1) = BAD\nworst(4) = BAD\nworst(LEAST) = BAD\nworst(GREATEST) = BAD\n");
        Edges.refused(19, "NOT: no two are of one BUNDLE.", "EMPTY",
            "worst(0) = NOT\nworst(1) = NOT\nworst(2) = NOT\nworst(3) = NOT\n");
        Edges.edge(19, "NOT: no two are of one BUNDLE.", FOUR + """
            worst(0) = NOT
            worst(3) = NOT
            mark(8, 1, 50, 1) = 5
            worst() = 2/1
            asOf(0)
            worst(0) = NOT
            """);
        Edges.edge(19, "(As the least long.)", """
            worst(4) = -9223372036854775806
            worst(3) = -9223372036854775805
            """);
    }

    private static void next() {
        Edges.edge(20, "NEXT MARK: 0 SCRIPT, 1 MARKER, 2, 3 the WORST with it, above, below.", """
            mark(9, 2, 1, 0) = 1
            mark(10, 2, 1, 0) = 2
            mark(10, 3, 1, 0) = 3
            mark(11, 3, 1, 0) = 4
            next(0) = 9
            next(1) = 3
            next(2) = 7
            next(3) = 4
            count(0) = 4                   # it is not told by this
            worst() = 4/1
            """);
        Edges.refused(20, "BAD;", ALL, "next(-1) = BAD\nnext(4) = BAD\nnext(LEAST) = BAD\nnext(GREATEST) = BAD\n");
        Edges.refused(20, "NOT: there is no such pair, or no WORST.", "EMPTY",
            "next(0) = NOT\nnext(1) = NOT\nnext(2) = NOT\nnext(3) = NOT\n");
        Edges.refused(20, "NOT: there is no such pair, or no WORST.", "FULL",
            "next(0) = NOT\nnext(1) = NOT\nnext(2) = NOT\nnext(3) = NOT\n");
        Edges.edge(20, "NOT: there is no such pair, or no WORST.", FOUR + """
            next(0) = NOT                  # no worst
            mark(9, 0, 50, 0) = 5
            worst() = 2/1
            next(0) = NOT                  # no pair: each bundle is marked through
            mark(9, 1, 50, 0) = 6
            next(0) = 1                    # 1 by 0, 8 by 1
            """);
        Edges.edge(20, "(As the least long.)", """
            next(4) = -9223372036854775806
            next(0) = -9223372036854775805
            """);
    }

    private static void bridge() {
        Edges.edge(21, "BRIDGE: 1, 0.", """
            mark(0, 0, 1, 0) = 1
            mark(11, 3, 1, 0) = 2
            bridge(0, 0) = 1
            bridge(11, 3) = 1
            mark(11, 0, 1, 0) = 3
            mark(0, 3, 1, 0) = 4
            bridge(0, 0) = 0
            bridge(11, 3) = 0
            """);
        Edges.refused(21, "BAD;", ALL, """
            bridge(-1, 0) = BAD
            bridge(12, 0) = BAD
            bridge(LEAST, 0) = BAD
            bridge(GREATEST, 0) = BAD
            bridge(0, -1) = BAD
            bridge(0, 4) = BAD
            bridge(0, LEAST) = BAD
            bridge(0, GREATEST) = BAD
            bridge(-1, 4) = BAD
            """);
        Edges.refused(21, "NOT: no MARK.", "EMPTY", "bridge(0, 0) = NOT\nbridge(11, 3) = NOT\n");
        Edges.refused(21, "NOT: no MARK.", "BUSY", "bridge(2, 0) = NOT\nbridge(3, 0) = NOT\nbridge(7, 3) = NOT\n");
    }

    private static void price() {
        Edges.edge(22, "What a MARKER costs: what it was.", """
            price(0, 0) = 1
            price(0, 99) = 0
            price(0, 1) = 99
            price(3, 99) = 1
            price(3, 99) = 99
            price(1, 5) = 1                # each has its own
            price(2, 6) = 1
            price(1, 5) = 5
            """);
        Edges.refused(22, "BAD.", ALL, """
            price(-1, 5) = BAD
            price(4, 5) = BAD
            price(LEAST, 5) = BAD
            price(GREATEST, 5) = BAD
            price(0, -1) = BAD
            price(0, 100) = BAD
            price(3, LEAST) = BAD
            price(3, GREATEST) = BAD
            """);
    }

    private static void tied() {
        String words = "TIED: the cost (i = NONE), the i-th mark: 4 times its SCRIPT and its MARKER; NONE beyond.";
        Edges.edge(23, words, FOUR + """
            tied(-1) = 3
            tied(0) = 4
            tied(2) = 7
            tied(3) = NONE                 # of three marks the last is 2
            tied(4) = NONE
            tied(GREATEST) = NONE
            count(0) = 4                   # they are not told by this
            count(4) = 4
            """);
        Edges.edge(23, words, "tied(-1) = 0\ntied(0) = NONE\ntied(GREATEST) = NONE\n");
        Edges.refused(23, "BAD: i below NONE.", ALL, "tied(-2) = BAD\ntied(-3) = BAD\ntied(LEAST) = BAD\n");
    }
}
