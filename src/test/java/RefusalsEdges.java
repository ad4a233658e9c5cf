/** The paragraph on refusals: which comes first, and how it is told; and what of the document names no boundary. */
final class RefusalsEdges {
    private RefusalsEdges() {
    }

    static void run() {
        inOrder();
        kinds();
        unchanged();
        asLongs();
        asInts();
        plainWords();
    }

    private static void inOrder() {
        String words = "Refusals, the first that fits, in the order told at each act:";
        Edges.edge(0, words, """
            read(0, 1000) = BAD            # BAD, NULL
            read(0, 0) = NULL
            put(0, 3, -1, 0) = BAD         # BAD, NULL, CAST, INDEX
            put(0, 0, -1, 0) = NULL
            sheet(0, 0, 1) = 1
            put(0, 1, -1, 0) = CAST
            put(0, 0, -1, 0) = INDEX
            copy(4, -1, 1, 0, 0) = BAD     # BAD, NULL, STORE, INDEX
            copy(0, -1, 1, 0, 0) = NULL
            sheet(1, 1, 1) = 1
            copy(0, -1, 1, 0, 0) = STORE
            copy(0, -1, 0, 0, 0) = INDEX
            sheet(4, 0, -1) = BAD          # BAD, SIZE
            sheet(2, 0, -1) = SIZE
            hard(0, 2) = BAD               # BAD, NOT
            hard(0, 0) = NOT
            grade(12) = BAD
            grade(0) = NOT
            """);
        Edges.edge(0, words, """
            12 x mark(0, 0, 5, 0)
            87 x mark(1, 1, 5, 9)
            mark(0, 0, 5, 8) = BAD
            mark(0, 0, 5, 9) = 100
            mark(0, 0, 5, 8) = BAD         # BAD, FULL
            mark(0, 0, 5, 9) = FULL
            agree(0, 1, 2) = BAD           # BAD, NOT, FULL
            agree(0, 1, 1) = NOT
            60 x type(0)
            type(256) = BAD                # BAD, FULL
            type(0) = FULL
            """);
    }

    private static void kinds() {
        String words = "BAD -2 (a number not as told, no such thing), NULL, NOT -3 (as told), FULL -4, other FINDINGS.";
        Edges.edge(0, words, """
            has(12, 0) = -2
            lose(0) = -11
            rank(0, 0) = -3
            60 x type(0)
            type(0) = -4
            sheet(0, 0, -1) = -15
            sheet(0, 0, 0) = 0
            sheet(1, 1, 0) = 0
            put(0, 1, 0, 0) = -13
            put(0, 0, 0, 0) = -12
            copy(0, 0, 1, 0, 0) = -14
            """);
    }

    private static void unchanged() {
        String words = "They change nothing (FINDINGS but count() 8).";
        Edges.refused(0, words, "BUSY", """
            mark(0, 0, 101, 9) = BAD
            asOf(1000) = BAD
            type(256) = BAD
            price(0, 100) = BAD
            sheet(0, 0, 49) = BAD
            worth(3, 0) = NOT
            without(3, 0, 0) = NOT
            read(3, 9) = NULL
            sheet(1, 1, -1) = SIZE
            put(1, 2, 0, 77) = CAST
            put(1, 1, 9, 77) = INDEX
            copy(1, 0, 2, 0, 3) = STORE
            copy(1, 0, 1, 5, 5) = INDEX
            """);
        Edges.refused(0, words, "FULL", """
            mark(0, 0, 50, 20) = FULL
            type(65) = FULL
            agree(0, 1, 1) = FULL
            next(0) = NOT
            """);
    }

    private static void asLongs() {
        Edges.edge(0, "Where the answer is a long, a refusal -x is the least long and x more.", """
            hard(4, 0) = -9223372036854775806
            hard(0, 0) = -9223372036854775805
            worth(12, 0) = -9223372036854775806
            worth(0, 0) = -9223372036854775805
            fit(0, 4, 0) = -9223372036854775806
            fit(0, 0, 0) = -9223372036854775805
            off(4, 0) = -9223372036854775806
            off(0, 0) = -9223372036854775805
            doubt(0, 0, 0) = -9223372036854775806
            doubt(0, 1, 0) = -9223372036854775805
            worst(4) = -9223372036854775806
            worst(0) = -9223372036854775805
            next(4) = -9223372036854775806
            next(0) = -9223372036854775805
            drift(4, 0) = -9223372036854775806
            drift(0, 0) = -9223372036854775805
            without(0, 4, 0) = -9223372036854775806
            without(0, 0, 0) = -9223372036854775805
            """);
    }

    private static void asInts() {
        Edges.edge(0, "BAD -2 (a number not as told, no such thing),", """
            mark(0, 0, 0, -1) = -2
            read(4, 0) = -2
            asOf(-1) = -2
            has(0, 4) = -2
            bundle(2, 0) = -2
            rank(0, 2) = -2
            type(-1) = -2
            grade(12) = -2
            hangs(12) = -2
            misses(4, 0) = -2
            bridge(0, 4) = -2
            price(0, -1) = -2
            tied(-2) = -2
            agree(0, 0, 0) = -2
            sheet(4, 0, 0) = -2
            lose(4) = -2
            put(4, 0, 0, 0) = -2
            copy(4, 0, 0, 0, 0) = -2
            write(4, 0) = -2
            count(9) = -2
            get(4, 0, 0) = -2147483648     # but here
            """);
    }

    /** The face (LanguageTest holds the class against it) and what the interface says ahead of the calls. */
    private static void plainWords() {
        Edges.plain(0, "## The public face public final class MarkedHands {");
        for (String row : FACE.split("\n")) {
            Edges.plain(0, row);
        }
        Edges.plain(0, "## Terms");
        Edges.plain(0, AHEAD);
    }

    private static final String FACE = """
        public MarkedHands();
        public int mark(int script, int marker, int v, int time);
        public int read(int s, int time);
        public int asOf(int time);
        public int has(int script, int marker);
        public int bundle(int what, int which);
        public long hard(int marker, int what);
        public long worth(int script, int what);
        public long fit(int script, int marker, int what);
        public long off(int bundle, int what);
        public int rank(int script, int how);
        public int type(int b);
        public int wipe();
        public int fault();
        public int grade(int script);
        public int hangs(int script);
        public int misses(int bundle, int tenths);
        public long doubt(int a, int b, int what);
        public long worst(int what);
        public long next(int what);
        public int bridge(int script, int marker);
        public int price(int marker, int v);
        public int tied(int i);
        public long drift(int marker, int what);
        public int agree(int a, int b, int how);
        public int odd();
        public long without(int script, int marker, int what);
        public int sheet(int s, int type, int n);
        public int lose(int s);
        public int put(int s, int type, int i, int v);
        public int get(int s, int type, int i);
        public int copy(int s, int i, int t, int j, int n);
        public int write(int marker, int s);
        public int count(int what);
        public long digest();
        """;

    private static final String AHEAD = """
        Ahead of the calls `mark`, `read`, `asOf`, `has`, `bundle` the interface says: ---- marks.
        Ahead of the calls `hard`, `worth`, `fit`, `off`, `rank` the interface says: ---- worth.
        Ahead of the calls `type`, `wipe`, `fault`, `grade`, `hangs`, `misses` the interface says: ---- grades.
        Ahead of the calls `doubt`, `worst`, `next`, `bridge`, `price`, `tied` the interface says: ---- doubts.
        Ahead of the calls `drift`, `agree`, `odd`, `without` the interface says: ---- markers.
        Ahead of the calls `sheet`, `lose`, `put`, `get`, `copy`, `write`, `count`, `digest`
        the interface says: ---- sheets.
        """;
}
