import java.util.ArrayList;
import java.util.Arrays;
import java.util.Collections;
import java.util.List;
import java.util.Random;

/**
 * The document's first sentence, clause by clause, as laws that hold for whatever marks were told; and its
 * last words, that name what is not promised.
 */
final class OpeningEdges {
    private static final int MARKERS = 4;
    private static final int SCRIPTS = 12;
    private static final int STATES = 40;
    private static final String QUESTIONS = questions();
    private static final Random DICE = new Random(31);

    private OpeningEdges() {
    }

    static void run() {
        putRight();
        leastSquares();
        amongThoseThatHangTogether();
        gradesByHand();
        doubts();
        oneMoreMark();
        tieAll();
        drift();
        agree();
        doNotFit();
        asOfAnyTime();
        notPromised();
    }

    // ---- what was told

    /** A telling: script, marker, mark (or -1), time. */
    private static List<int[]> someTellings(int most) {
        List<int[]> all = new ArrayList<>();
        int scripts = 1 + DICE.nextInt(SCRIPTS);
        int spread = DICE.nextBoolean() ? 101 : 5;
        int n = 1 + DICE.nextInt(most);
        int time = 0;
        for (int i = 0; i < n; i++) {
            time += DICE.nextInt(3);
            int v = DICE.nextInt(8) == 0 ? -1 : DICE.nextInt(spread);
            all.add(new int[] {DICE.nextInt(scripts), DICE.nextInt(MARKERS), v, time});
        }
        return all;
    }

    /** No script is told twice by one marker, and all is told. */
    private static List<int[]> someMarks(int scripts, int markers, int inTwelve) {
        List<int[]> all = new ArrayList<>();
        for (int cell = 0; cell < MARKERS * SCRIPTS; cell++) {
            int script = cell / MARKERS;
            int marker = cell % MARKERS;
            if (script < scripts && marker < markers && DICE.nextInt(12) < inTwelve) {
                all.add(new int[] {script, marker, DICE.nextInt(101), 5});
            }
        }
        Collections.shuffle(all, DICE);
        return all;
    }

    private static MarkedHands told(List<int[]> tellings) {
        MarkedHands hands = new MarkedHands();
        for (int[] one : tellings) {
            hands.mark(one[0], one[1], one[2], one[3]);
        }
        return hands;
    }

    private static String rows(List<int[]> tellings) {
        StringBuilder text = new StringBuilder();
        for (int[] one : tellings) {
            text.append("mark(" + one[0] + ", " + one[1] + ", " + one[2] + ", " + one[3] + ")\n");
        }
        return text.toString();
    }

    // ---- what is asked

    /** All but count() 1 to 3 and digest(), which tell of tellings too, in rounds that one object can bear. */
    private static String questions() {
        StringBuilder text = new StringBuilder("type(\"A=70;B=60.5;C=55;D=40;F=20\")\n");
        for (int s = 0; s < SCRIPTS; s++) {
            text.append("worth(" + s + ", 0)\nworth(" + s + ", 1)\nrank(" + s + ", 0)\nrank(" + s + ", 1)\n");
            text.append("bundle(0, " + s + ")\ngrade(" + s + ")\nhangs(" + s + ")\n");
            text.append("doubt(0, " + s + ", 0)\ndoubt(" + s + ", 11, 1)\n");
            for (int m = 0; m < MARKERS; m++) {
                text.append("has(" + s + ", " + m + ")\nfit(" + s + ", " + m + ", 0)\n");
                text.append("bridge(" + s + ", " + m + ")\nwithout(" + s + ", " + m + ", 0)\n");
            }
        }
        for (int i = 0; i < MARKERS; i++) {
            text.append("bundle(1, " + i + ")\nhard(" + i + ", 0)\nhard(" + i + ", 1)\noff(" + i + ", 0)\n");
            text.append("misses(" + i + ", 37)\nworst(" + i + ")\nnext(" + i + ")\ntied(" + (i - 1) + ")\n");
            text.append("drift(" + i + ", 0)\nagree(" + i + ", " + (i + 1) % MARKERS + ", 1)\n");
        }
        return text + "count(0)\ncount(4)\ncount(6)\ncount(7)\nodd()\n";
    }

    private static void alike(String words, String one, String other) {
        List<String> due = answers(one);
        List<String> got = answers(other);
        Edges.law(words, got.equals(due), "behind\n" + other + "all is not as behind\n" + one);
    }

    private static List<String> answers(String ahead) {
        List<String> all = Runs.answers("ahead of the questions", ahead + QUESTIONS);
        int first = Runs.answers("ahead of the questions", ahead).size();
        return all.subList(first, all.size());
    }

    private static boolean isMarked(MarkedHands hands, int script) {
        return hands.bundle(0, script) != MarkedHands.NONE;
    }

    private static Fraction worth(MarkedHands hands, int script) {
        return Fraction.of(hands.worth(script, 0), hands.worth(script, 1));
    }

    private static Fraction fit(MarkedHands hands, int script, int marker) {
        return Fraction.of(hands.fit(script, marker, 0), hands.fit(script, marker, 1));
    }

    private static Fraction off(MarkedHands hands, int bundle) {
        return Fraction.of(hands.off(bundle, 0), hands.off(bundle, 1));
    }

    private static Fraction doubt(MarkedHands hands, int a, int b) {
        return Fraction.of(hands.doubt(a, b, 0), hands.doubt(a, b, 1));
    }

    private static Fraction drift(MarkedHands hands, int marker) {
        return Fraction.of(hands.drift(marker, 0), hands.drift(marker, 1));
    }

    private static boolean isOne(Fraction a, Fraction b) {
        return a.compareTo(b) == 0;
    }

    // ---- the clauses

    /** What was told wrong, or too much, and put right at last is as if it had been told right at once. */
    private static void putRight() {
        String words = "# MarkedHands ## What it is Marked by many hands: scripts marked by some of a few markers, "
            + "some of them told late and put right;";
        for (int i = 0; i < STATES; i++) {
            List<int[]> right = someMarks(1 + DICE.nextInt(SCRIPTS), MARKERS, 1 + DICE.nextInt(12));
            List<int[]> late = new ArrayList<>();
            for (int[] one : right) {
                late.add(new int[] {one[0], one[1], DICE.nextInt(102) - 1, 3});
            }
            Collections.shuffle(late, DICE);
            late.addAll(right);
            alike(words, rows(right), rows(late));
        }
    }

    /** The squares are least where, of each script and of each marker, all fits together are 0. */
    private static void leastSquares() {
        String words = "how hard each marker is, and what each script is worth then, by exact least squares "
            + "over who marked what,";
        for (int i = 0; i < STATES; i++) {
            MarkedHands hands = told(someTellings(60));
            Fraction[] sums = new Fraction[SCRIPTS + MARKERS];
            Arrays.fill(sums, Fraction.ZERO);
            for (int s = 0; s < SCRIPTS; s++) {
                for (int m = 0; m < MARKERS; m++) {
                    if (hands.has(s, m) != MarkedHands.NONE) {
                        Fraction fit = fit(hands, s, m);
                        Fraction hard = Fraction.of(hands.hard(m, 0), hands.hard(m, 1));
                        Fraction due = Fraction.of(hands.has(s, m), 1).minus(worth(hands, s).minus(hard));
                        Edges.law(words, isOne(fit, due), "a fit is not mark less (worth less hard)");
                        sums[s] = sums[s].plus(fit);
                        sums[SCRIPTS + m] = sums[SCRIPTS + m].plus(fit);
                    }
                }
            }
            for (Fraction sum : sums) {
                Edges.law(words, sum.isZero(), "fits of one script or marker are not 0 together");
            }
            for (int m = 0; m < MARKERS; m++) {
                boolean least = hands.bundle(1, m) == m;
                Edges.law(words, !least || hands.hard(m, 0) == 0 && hands.hard(m, 1) == 1, "the least is 0 by 1");
            }
        }
    }

    /** Marks of scripts 6 to 11 by markers 2, 3 say nothing of what markers 0, 1 and scripts 0 to 5 are. */
    private static void amongThoseThatHangTogether() {
        String words = "only among those that hang together;";
        for (int i = 0; i < STATES; i++) {
            List<int[]> few = someMarks(6, 2, 9);
            List<int[]> more = new ArrayList<>(few);
            for (int[] one : someMarks(6, 2, 9)) {
                more.add(new int[] {one[0] + 6, one[1] + 2, one[2], 7});
            }
            MarkedHands one = told(few);
            MarkedHands other = told(more);
            boolean right = true;
            for (int what = 0; what < 2; what++) {
                for (int s = 0; s < 6; s++) {
                    right &= one.worth(s, what) == other.worth(s, what) && one.rank(s, what) == other.rank(s, what);
                    right &= one.doubt(s, (s + 1) % 6, what) == other.doubt(s, (s + 1) % 6, what);
                    right &= one.without(s, 1, what) == other.without(s, 1, what);
                    right &= other.doubt(s, s + 6, what) == Long.MIN_VALUE + 3;
                }
                for (int m = 0; m < 2; m++) {
                    right &= one.hard(m, what) == other.hard(m, what) && one.off(m, what) == other.off(m, what);
                    right &= one.drift(m, what) == other.drift(m, what);
                }
            }
            Edges.law(words, right, "what does not hang together matters behind\n" + rows(more));
        }
    }

    /** Marker 1 is harder by 10: what is a B from its hand is worth an A. */
    private static void gradesByHand() {
        String words = "grades by laws as texts, and whose grade hangs on whose hand it came to;";
        String marks = """
            mark(0, 0, 80, 1)
            mark(0, 1, 70, 1)
            mark(1, 1, 65, 1)
            mark(2, 0, 75, 1)
            worth(1) = 75/1
            """;
        Edges.edge(0, words, marks + """
            type("A=70;B=60")
            grade(1) = 0
            hangs(1) = 1
            grade(2) = 0
            hangs(2) = 0                   # the same worth, from the hand of marker 0
            hangs(0) = 0
            """);
        Edges.edge(0, words, marks + """
            type("A=80;B=65;C=50")         # by another law the same script hangs on no hand
            grade(1) = 1
            hangs(1) = 0
            grade(0) = 0
            hangs(0) = 1                   # worth 80, and 75 by hand
            """);
    }

    /** Resistances: like both ways, none more than two in a row, and no mark more makes one greater. */
    private static void doubts() {
        String words = "how sure one script is above another,";
        for (int i = 0; i < STATES; i++) {
            List<int[]> marks = someMarks(5, MARKERS, 5);
            MarkedHands hands = told(marks);
            marks.add(new int[] {DICE.nextInt(5), DICE.nextInt(MARKERS), 50, 9});
            MarkedHands more = told(marks);
            for (int a = 0; a < 5; a++) {
                for (int b = 0; b < 5; b++) {
                    if (a == b || !isMarked(hands, a) || hands.bundle(0, a) != hands.bundle(0, b)) {
                        continue;
                    }
                    Fraction d = doubt(hands, a, b);
                    Edges.law(words, d.compareTo(Fraction.ZERO) > 0, "no doubt");
                    Edges.law(words, isOne(d, doubt(hands, b, a)), "another doubt the other way");
                    Edges.law(words, doubt(more, a, b).compareTo(d) <= 0, "a mark more makes more doubt");
                    for (int c = 0; c < 5; c++) {
                        if (c != a && c != b && hands.bundle(0, c) == hands.bundle(0, a)) {
                            Fraction round = doubt(hands, a, c).plus(doubt(hands, c, b));
                            Edges.law(words, d.compareTo(round) <= 0, "a way round with less doubt");
                        }
                    }
                }
            }
        }
    }

    /** What next() says comes true when the mark is told, and no other mark would do more. */
    private static void oneMoreMark() {
        String words = "what one more mark would do for the worst doubt;";
        for (int i = 0; i < STATES; i++) {
            List<int[]> marks = someMarks(2 + DICE.nextInt(6), MARKERS, 3 + DICE.nextInt(5));
            MarkedHands hands = told(marks);
            int best = MarkedHands.NONE;
            Fraction least = Fraction.ZERO;
            for (int cell = 0; cell < MARKERS * SCRIPTS; cell++) {
                int script = cell / MARKERS;
                int marker = cell % MARKERS;
                if (hands.has(script, marker) == MarkedHands.NONE && isMarked(hands, script)
                        && hands.bundle(0, script) == hands.bundle(1, marker)) {
                    List<int[]> more = new ArrayList<>(marks);
                    more.add(new int[] {script, marker, DICE.nextInt(101), 6});
                    MarkedHands with = told(more);
                    Fraction worst = Fraction.of(with.worst(0), with.worst(1));
                    if (best == MarkedHands.NONE || worst.compareTo(least) < 0) {
                        best = cell;
                        least = worst;
                    }
                }
            }
            long none = Long.MIN_VALUE + 3;
            boolean right = best == MarkedHands.NONE ? hands.next(0) == none && hands.next(3) == none
                : hands.next(0) == best / MARKERS && hands.next(1) == best % MARKERS
                    && hands.next(2) == least.side(0) && hands.next(3) == least.side(1);
            Edges.law(words, right, "next is not so behind\n" + rows(marks));
        }
    }

    /** With these marks all hangs together, with one fewer not, and no other marks would do it for less. */
    private static void tieAll() {
        String words = "the fewest marks that tie all together, at least cost;";
        for (int i = 0; i < STATES; i++) {
            List<int[]> marks = someMarks(2 + DICE.nextInt(5), MARKERS, 2 + DICE.nextInt(2));
            MarkedHands hands = told(marks);
            int[] prices = new int[MARKERS];
            for (int m = 0; m < MARKERS; m++) {
                prices[m] = DICE.nextInt(4) == 0 ? 0 : DICE.nextInt(100);
                hands.price(m, prices[m]);
            }
            int bundles = hands.count(4);
            int cost = hands.tied(MarkedHands.NONE);
            int due = 0;
            int n = 0;
            List<int[]> all = new ArrayList<>(marks);
            while (hands.tied(n) != MarkedHands.NONE && n < 48) {
                int cell = hands.tied(n);
                due += prices[cell % MARKERS];
                all.add(new int[] {cell / MARKERS, cell % MARKERS, 50, 6});
                n++;
            }
            Edges.law(words, n == Math.max(0, bundles - 1), n + " marks for " + bundles + " bundles");
            Edges.law(words, cost == due, "the cost is " + cost + ", that of the marks " + due);
            MarkedHands tied = told(all);
            Edges.law(words, tied.count(4) == Math.min(1, bundles), "not all is tied behind\n" + rows(all));
            Edges.law(words, tied.count(7) == hands.count(7), "a script comes in that has no mark");
            Edges.law(words, cost == leastCost(prices, groups(hands)), "dear behind\n" + rows(marks));
        }
    }

    private static int[] groups(MarkedHands hands) {
        int[] groups = new int[MARKERS];
        for (int m = 0; m < MARKERS; m++) {
            groups[m] = hands.bundle(1, m);
        }
        return groups;
    }

    /** By trying every mark that joins two of the groups, and behind it every other. */
    private static int leastCost(int[] prices, int[] groups) {
        int least = Integer.MAX_VALUE;
        boolean isOneGroup = true;
        for (int from = 0; from < MARKERS; from++) {
            for (int to = 0; to < MARKERS; to++) {
                if (groups[from] >= 0 && groups[to] >= 0 && groups[from] != groups[to]) {
                    // Some script of the group of "from" comes to marker "to"; each group has one.
                    isOneGroup = false;
                    int[] joined = groups.clone();
                    for (int m = 0; m < MARKERS; m++) {
                        joined[m] = groups[m] == groups[to] ? groups[from] : groups[m];
                    }
                    least = Math.min(least, prices[to] + leastCost(prices, joined));
                }
            }
        }
        return isOneGroup ? 0 : least;
    }

    /** The same marks told from the last to the first drift the other way. */
    private static void drift() {
        String words = "markers that drift,";
        for (int i = 0; i < STATES; i++) {
            List<int[]> marks = someMarks(SCRIPTS, MARKERS, 7);
            MarkedHands one = told(marks);
            Collections.reverse(marks);
            MarkedHands other = told(marks);
            for (int m = 0; m < MARKERS; m++) {
                if (one.drift(m, 0) != Long.MIN_VALUE + 3) {
                    Fraction sum = drift(one, m).plus(drift(other, m));
                    Edges.law(words, sum.isZero(), "not the other way behind\n" + rows(marks));
                }
            }
        }
        Edges.edge(0, words, """
            mark(0, 0, 50, 1)
            mark(0, 1, 50, 1)
            mark(1, 0, 60, 1)
            mark(1, 1, 56, 1)
            drift(0) = 2/1                 # its later mark fits by 1, its earlier by -1
            drift(1) = -2/1
            """);
    }

    /** Both ways the same; turned about, the one's order speaks against the other's; chance is of all orders. */
    private static void agree() {
        String words = "that agree by more than chance;";
        for (int i = 0; i < STATES; i++) {
            List<int[]> marks = someMarks(7, 2, 10);
            MarkedHands hands = told(marks);
            List<int[]> turned = new ArrayList<>();
            for (int[] one : marks) {
                turned.add(new int[] {one[0], one[1], one[1] == 0 ? one[2] : 100 - one[2], one[3]});
            }
            MarkedHands against = told(turned);
            if (hands.agree(0, 1, 0) != MarkedHands.NOT) {
                Edges.law(words, hands.agree(0, 1, 0) == hands.agree(1, 0, 0), "agree both ways");
                Edges.law(words, hands.agree(0, 1, 1) == hands.agree(1, 0, 1), "chance both ways");
                Edges.law(words, against.agree(0, 1, 0) == -hands.agree(0, 1, 0), "turned about");
                int both = hands.agree(0, 1, 1) + against.agree(0, 1, 1);
                Edges.law(words, both >= 999999, "as much or more, and as little or less: " + both);
            }
        }
        int orders = 1;
        for (int n = 2; n <= 7; n++) {
            orders *= n;
            MarkedHands hands = new MarkedHands();
            for (int s = 0; s < n; s++) {
                hands.mark(s, 2, 10 * s, 0);
                hands.mark(s, 3, 50 + s, 0);
            }
            int got = hands.agree(2, 3, 1);
            Edges.law(words, got == 1000000 / orders, "chance of one order of " + orders + " is " + got);
        }
    }

    /** Without a mark is as with none told there; the oddest has no fit ahead of it that is as great. */
    private static void doNotFit() {
        String words = "marks that do not fit, and what it all is without them;";
        for (int i = 0; i < STATES; i++) {
            List<int[]> marks = someMarks(6, MARKERS, 6);
            MarkedHands hands = told(marks);
            int oddest = MarkedHands.NONE;
            Fraction most = Fraction.ZERO;
            for (int cell = 0; cell < MARKERS * 6; cell++) {
                int script = cell / MARKERS;
                int marker = cell % MARKERS;
                if (hands.has(script, marker) == MarkedHands.NONE) {
                    continue;
                }
                Fraction amount = fit(hands, script, marker).amount();
                if (oddest == MarkedHands.NONE || amount.compareTo(most) > 0) {
                    oddest = cell;
                    most = amount;
                }
                Fraction left = offLeft(marks, hands, script, marker);
                boolean right = hands.without(script, marker, 0) == left.side(0)
                    && hands.without(script, marker, 1) == left.side(1);
                Edges.law(words, right, "without " + script + ", " + marker + " behind\n" + rows(marks));
            }
            Edges.law(words, hands.odd() == oddest, "odd is " + hands.odd() + " behind\n" + rows(marks));
        }
    }

    private static Fraction offLeft(List<int[]> marks, MarkedHands hands, int script, int marker) {
        List<int[]> fewer = new ArrayList<>(marks);
        fewer.add(new int[] {script, marker, -1, 8});
        MarkedHands left = told(fewer);
        Fraction sum = Fraction.ZERO;
        for (int m = 0; m < MARKERS; m++) {
            if (left.bundle(1, m) == m && hands.bundle(1, m) == hands.bundle(0, script)) {
                sum = sum.plus(off(left, m));
            }
        }
        return sum;
    }

    /** As of a time all is as if nothing had been told behind it, whatever was asked before. */
    private static void asOfAnyTime() {
        String words = "as of any time.";
        for (int i = 0; i < STATES; i++) {
            List<int[]> tellings = someTellings(60);
            int time = DICE.nextInt(tellings.get(tellings.size() - 1)[3] + 2);
            List<int[]> upTo = new ArrayList<>();
            for (int[] one : tellings) {
                if (one[3] <= time) {
                    upTo.add(one);
                }
            }
            alike(words, rows(upTo), rows(tellings) + "digest()\nasOf(" + time + ")\n");
            alike(words, rows(tellings), rows(tellings) + "asOf(" + time + ")\nnext(0)\nasOf(999)\n");
        }
    }

    /** Words that ask for nothing; that no call throws, also past the 512th, LanguageTest looks at. */
    private static void notPromised() {
        Edges.plain(Document.NOT_PROMISED, """
            ## Not promised
            How the state is held inside the object is free, as are the speed of each call, the text of toString
            and the behaviour of equals and hashCode. Use of one object from several threads at once is not promised
            to be safe. Nothing is promised beyond the answers and state changes described above, and nothing about
            an object after its 512th call.
            """);
    }
}
