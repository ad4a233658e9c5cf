/**
 * Scripts marked by some of a few markers: how hard each marker is and what each script is worth,
 * exactly, as of any time. What each call promises is told in the document, ../shared/DOC.md.
 *
 * A cell is the place of a mark: 4 times its script and its marker. Sets of markers are bits of an int.
 */
public final class MarkedHands {
    public static final int NONE = -1, BAD = -2, NOT = -3, FULL = -4;

    private static final int MARKERS = 4;
    private static final int SCRIPTS = 12;
    private static final int CELLS = 48;
    private static final int TOP_MARK = 100;
    private static final int TOP_PRICE = 99;
    private static final int TOP_SHIFT = 1000;
    private static final int TOP_TIME = 999;
    private static final int TOP_DEALT = 7;
    private static final int LEAST_INT = 1 << 31;
    private static final long LEAST_LONG = 1L << 63;

    private static final int NULL_FOUND = 1;
    private static final int INDEX_FOUND = 2;
    private static final int CAST_FOUND = 3;
    private static final int STORE_FOUND = 4;
    private static final int SIZE_FOUND = 5;

    private final Tellings tellings = new Tellings();
    private final Balance now = new Balance();
    private final Balance trial = new Balance();
    private final Step step = new Step();
    private final Ties ties = new Ties();
    private final Agreement agreement = new Agreement();
    private final Laws laws = new Laws();
    private final Sheets sheets = new Sheets();
    private final int[] order = new int[CELLS];
    private final int[] prices = {1, 1, 1, 1};
    private boolean stale = true;
    private int finding = 0;

    public MarkedHands() {
    }

    // ---- marks

    public int mark(int script, int marker, int v, int time) {
        if (!isScript(script) || !isMarker(marker) || v < NONE || v > TOP_MARK || !tellings.mayCome(time)) {
            return BAD;
        }
        if (tellings.isFull()) {
            return FULL;
        }
        tellings.add(MARKERS * script + marker, v, time);
        stale = true;
        return tellings.told;
    }

    public int read(int s, int time) {
        if (!isSheet(s) || !tellings.mayCome(time)) {
            return BAD;
        }
        if (sheets.isLost(s)) {
            return found(NULL_FOUND);
        }
        int whole = sheets.sizes[s] / 3;
        for (int i = 0; i < whole; i++) {
            int script = sheets.item(s, 3 * i);
            int marker = sheets.item(s, 3 * i + 1);
            if (mark(script, marker, sheets.item(s, 3 * i + 2), time) < 0) {
                return i;
            }
        }
        return whole;
    }

    public int asOf(int time) {
        if (time < 0 || time > TOP_TIME) {
            return BAD;
        }
        int before = tellings.until;
        tellings.until = time;
        stale = true;
        return before;
    }

    public int has(int script, int marker) {
        if (!isScript(script) || !isMarker(marker)) {
            return BAD;
        }
        settle();
        return now.cells[MARKERS * script + marker];
    }

    public int bundle(int what, int which) {
        boolean known = what == 0 && isScript(which) || what == 1 && isMarker(which);
        if (!known) {
            return BAD;
        }
        settle();
        return what == 0 ? now.scriptBundle[which] : now.markerBundle[which];
    }

    // ---- worth

    public long hard(int marker, int what) {
        if (!isMarker(marker) || !isSide(what)) {
            return asLong(BAD);
        }
        settle();
        if (now.markerBundle[marker] == NONE) {
            return asLong(NOT);
        }
        return side(now.hardness[marker], now.whole, what);
    }

    public long worth(int script, int what) {
        if (!isScript(script) || !isSide(what)) {
            return asLong(BAD);
        }
        settle();
        if (now.hands[script] == 0) {
            return asLong(NOT);
        }
        return side(now.worths[script], now.below(), what);
    }

    public long fit(int script, int marker, int what) {
        if (!isScript(script) || !isMarker(marker) || !isSide(what)) {
            return asLong(BAD);
        }
        settle();
        int cell = MARKERS * script + marker;
        if (now.cells[cell] == NONE) {
            return asLong(NOT);
        }
        return side(now.fitOf(cell), now.below(), what);
    }

    public long off(int bundle, int what) {
        if (!isMarker(bundle) || !isSide(what)) {
            return asLong(BAD);
        }
        settle();
        if (now.markerBundle[bundle] != bundle) {
            return asLong(NOT);
        }
        return side(now.offAmong(now.reach[bundle]), now.below(), what);
    }

    public int rank(int script, int how) {
        if (!isScript(script) || !isSide(how)) {
            return BAD;
        }
        settle();
        if (now.hands[script] == 0) {
            return NOT;
        }
        int ahead = 0;
        for (int s = 0; s < SCRIPTS; s++) {
            if (now.scriptBundle[s] == now.scriptBundle[script] && isAhead(s, script, how)) {
                ahead++;
            }
        }
        return 1 + ahead;
    }

    // ---- grades

    public int type(int b) {
        if (b < 0 || b > 255) {
            return BAD;
        }
        if (laws.isFull()) {
            return FULL;
        }
        laws.add(b);
        return laws.length;
    }

    public int wipe() {
        return laws.clear();
    }

    public int fault() {
        return laws.faultAt;
    }

    public int grade(int script) {
        if (!isScript(script)) {
            return BAD;
        }
        settle();
        if (laws.faultAt != NONE || now.hands[script] == 0) {
            return NOT;
        }
        return gradeWith(script, 0);
    }

    public int hangs(int script) {
        int byWorth = grade(script);
        if (byWorth < 0) {
            return byWorth;
        }
        int byHand = laws.letterFor(now.sumOf(script), Integer.bitCount(now.hands[script]), 0);
        return byHand != byWorth ? 1 : 0;
    }

    public int misses(int bundle, int tenths) {
        if (!isMarker(bundle) || tenths < -TOP_SHIFT || tenths > TOP_SHIFT) {
            return BAD;
        }
        settle();
        if (laws.faultAt != NONE || now.markerBundle[bundle] != bundle) {
            return NOT;
        }
        int others = 0;
        for (int s = 0; s < SCRIPTS; s++) {
            if (now.scriptBundle[s] == bundle && gradeWith(s, tenths) != gradeWith(s, 0)) {
                others++;
            }
        }
        return others;
    }

    // ---- doubts

    public long doubt(int a, int b, int what) {
        if (!isScript(a) || !isScript(b) || a == b || !isSide(what)) {
            return asLong(BAD);
        }
        settle();
        if (!now.areTied(a, b)) {
            return asLong(NOT);
        }
        return side(now.doubtOf(a, b), now.below(), what);
    }

    public long worst(int what) {
        if (what < 0 || what > 3) {
            return asLong(BAD);
        }
        settle();
        now.seekWorst();
        if (now.worstFirst == NONE) {
            return asLong(NOT);
        }
        if (what >= 2) {
            return what == 2 ? now.worstFirst : now.worstSecond;
        }
        return side(now.worstDoubt, now.below(), what);
    }

    public long next(int what) {
        if (what < 0 || what > 3) {
            return asLong(BAD);
        }
        settle();
        step.seek(now, trial);
        if (step.cell == NONE) {
            return asLong(NOT);
        }
        if (what < 2) {
            return what == 0 ? step.cell / MARKERS : step.cell % MARKERS;
        }
        return side(step.doubt, step.below, what - 2);
    }

    public int bridge(int script, int marker) {
        if (!isScript(script) || !isMarker(marker)) {
            return BAD;
        }
        settle();
        if (now.cells[MARKERS * script + marker] == NONE) {
            return NOT;
        }
        return now.isBridge(script, marker) ? 1 : 0;
    }

    public int price(int marker, int v) {
        if (!isMarker(marker) || v < 0 || v > TOP_PRICE) {
            return BAD;
        }
        int before = prices[marker];
        prices[marker] = v;
        return before;
    }

    public int tied(int i) {
        if (i < NONE) {
            return BAD;
        }
        settle();
        ties.seek(now, prices);
        if (i == NONE) {
            return ties.cost;
        }
        return i < ties.length ? ties.picks[i] : NONE;
    }

    // ---- markers

    public long drift(int marker, int what) {
        if (!isMarker(marker) || !isSide(what)) {
            return asLong(BAD);
        }
        settle();
        int half = now.marksOf(marker) / 2;
        if (half == 0) {
            return asLong(NOT);
        }
        return side(laterLessEarlier(marker, half), half * now.below(), what);
    }

    public int agree(int a, int b, int how) {
        if (!isMarker(a) || !isMarker(b) || a == b || !isSide(how)) {
            return BAD;
        }
        settle();
        agreement.gather(now, a, b);
        if (agreement.length < 2) {
            return NOT;
        }
        if (how == 0) {
            return agreement.score();
        }
        return agreement.length > TOP_DEALT ? FULL : agreement.millionths();
    }

    public int odd() {
        settle();
        int oddest = NONE;
        long most = -1;
        for (int cell = 0; cell < CELLS; cell++) {
            if (now.cells[cell] != NONE && Math.abs(now.fitOf(cell)) > most) {
                most = Math.abs(now.fitOf(cell));
                oddest = cell;
            }
        }
        return oddest;
    }

    public long without(int script, int marker, int what) {
        if (!isScript(script) || !isMarker(marker) || !isSide(what)) {
            return asLong(BAD);
        }
        settle();
        int cell = MARKERS * script + marker;
        if (now.cells[cell] == NONE) {
            return asLong(NOT);
        }
        trial.copyWith(now, cell, NONE);
        trial.weigh();
        return side(trial.offAmong(now.reach[marker]), trial.below(), what);
    }

    // ---- sheets

    public int sheet(int s, int type, int n) {
        if (!isSheet(s) || !isType(type) || n > Sheets.MOST_ITEMS) {
            return BAD;
        }
        if (n < 0) {
            return found(SIZE_FOUND);
        }
        sheets.lay(s, type, n);
        return n;
    }

    public int lose(int s) {
        if (!isSheet(s)) {
            return BAD;
        }
        if (sheets.isLost(s)) {
            return found(NULL_FOUND);
        }
        int had = sheets.sizes[s];
        sheets.drop(s);
        return had;
    }

    public int put(int s, int type, int i, int v) {
        if (!isSheet(s) || !isType(type)) {
            return BAD;
        }
        int hindrance = sheets.hindrance(s, type, i);
        if (hindrance != 0) {
            return found(hindrance);
        }
        sheets.store(s, i, v);
        return 1;
    }

    public int get(int s, int type, int i) {
        if (!isSheet(s) || !isType(type)) {
            return LEAST_INT;
        }
        int hindrance = sheets.hindrance(s, type, i);
        if (hindrance != 0) {
            finding = hindrance;
            return LEAST_INT;
        }
        return sheets.item(s, i);
    }

    public int copy(int s, int i, int t, int j, int n) {
        if (!isSheet(s) || !isSheet(t)) {
            return BAD;
        }
        if (sheets.isLost(s) || sheets.isLost(t)) {
            return found(NULL_FOUND);
        }
        if (sheets.types[s] != sheets.types[t]) {
            return found(STORE_FOUND);
        }
        if (!sheets.hasRange(s, i, n) || !sheets.hasRange(t, j, n)) {
            return found(INDEX_FOUND);
        }
        sheets.move(s, i, t, j, n);
        return 1;
    }

    public int write(int marker, int s) {
        if (!isMarker(marker) || !isSheet(s)) {
            return BAD;
        }
        if (sheets.isLost(s)) {
            return found(NULL_FOUND);
        }
        settle();
        int n = Math.min(sheets.sizes[s], SCRIPTS);
        for (int script = 0; script < n; script++) {
            sheets.store(s, script, now.cells[MARKERS * script + marker]);
        }
        return n;
    }

    public int count(int what) {
        settle();
        switch (what) {
            case 0: return now.marksOfAll();
            case 1: return tellings.told;
            case 2: return tellings.until;
            case 3: return tellings.latest;
            case 4: return now.bundles();
            case 5: return laws.length;
            case 6: return now.bridges();
            case 7: return now.markedScripts();
            case 8: return finding;
            default: return BAD;
        }
    }

    public long digest() {
        long h = 17;
        for (int what = 0; what <= 7; what++) {
            h = 31 * h + count(what);
        }
        for (int script = 0; script < SCRIPTS; script++) {
            for (int marker = 0; marker < MARKERS; marker++) {
                h = 31 * h + has(script, marker);
            }
            h = 31 * h + worth(script, 0);
            h = 31 * h + worth(script, 1);
        }
        for (int marker = 0; marker < MARKERS; marker++) {
            h = 31 * h + hard(marker, 0);
            h = 31 * h + hard(marker, 1);
        }
        for (int what = 0; what <= 3; what++) {
            h = 31 * h + worst(what);
        }
        h = 31 * h + fault();
        return 31 * h + odd();
    }

    // ---- what the calls share

    /** The balance is worked out when a call first needs it, so that a row of tellings costs little. */
    private void settle() {
        if (!stale) {
            return;
        }
        stale = false;
        step.known = false;
        tellings.lay(now.cells, order);
        now.tie();
        now.weigh();
    }

    private int found(int number) {
        finding = number;
        return -10 - number;
    }

    private int gradeWith(int script, int tenths) {
        return laws.letterFor(now.worths[script], now.below(), tenths);
    }

    private boolean isAhead(int s, int script, int how) {
        if (how == 0) {
            return now.worths[s] > now.worths[script];
        }
        return now.sumOf(s) * Integer.bitCount(now.hands[script])
                > now.sumOf(script) * Integer.bitCount(now.hands[s]);
    }

    private long laterLessEarlier(int marker, int half) {
        int n = now.marksOf(marker);
        long sum = 0;
        for (int cell = marker; cell < CELLS; cell += MARKERS) {
            if (now.cells[cell] == NONE) {
                continue;
            }
            int place = toldBefore(cell, marker);
            if (place < half) {
                sum -= now.fitOf(cell);
            }
            if (place >= n - half) {
                sum += now.fitOf(cell);
            }
        }
        return sum;
    }

    private int toldBefore(int cell, int marker) {
        int before = 0;
        for (int other = marker; other < CELLS; other += MARKERS) {
            if (now.cells[other] != NONE && order[other] < order[cell]) {
                before++;
            }
        }
        return before;
    }

    private static boolean isScript(int script) {
        return script >= 0 && script < SCRIPTS;
    }

    private static boolean isMarker(int marker) {
        return marker >= 0 && marker < MARKERS;
    }

    private static boolean isSheet(int s) {
        return s >= 0 && s < Sheets.HOW_MANY;
    }

    private static boolean isType(int type) {
        return type >= Sheets.BYTES && type <= Sheets.INTS;
    }

    private static boolean isSide(int what) {
        return what == 0 || what == 1;
    }

    private static long asLong(int refusal) {
        return LEAST_LONG - refusal;
    }

    /** Of a fraction in lowest terms the part above (what = 0) or below (1). */
    private static long side(long above, long below, int what) {
        long shared = commonDivisor(Math.abs(above), below);
        if (shared <= 0) {
            return 0;
        }
        return what == 0 ? above / shared : below / shared;
    }

    /** Of two longs Euclid's way is never longer than some ninety steps. */
    private static long commonDivisor(long a, long b) {
        long greater = a;
        long lesser = b;
        for (int i = 0; i < 100 && lesser != 0; i++) {
            long rest = greater % lesser;
            greater = lesser;
            lesser = rest;
        }
        return greater;
    }

    private static int leastBit(int bits) {
        for (int i = 0; i < MARKERS; i++) {
            if ((bits >> i & 1) != 0) {
                return i;
            }
        }
        return NONE;
    }

    /** All that was told, in order, and up to which time it is looked at. */
    private static final class Tellings {
        static final int MOST = 100;

        final int[] cell = new int[MOST];
        final int[] value = new int[MOST];
        final int[] time = new int[MOST];
        int told = 0;
        int latest = 0;
        int until = TOP_TIME;

        boolean mayCome(int at) {
            return at >= latest && at <= TOP_TIME;
        }

        boolean isFull() {
            return told >= MOST;
        }

        void add(int which, int v, int at) {
            if (isFull()) {
                return;
            }
            cell[told] = which;
            value[told] = v;
            time[told] = at;
            told++;
            latest = at;
        }

        void lay(int[] cells, int[] order) {
            for (int i = 0; i < CELLS; i++) {
                cells[i] = NONE;
                order[i] = NONE;
            }
            for (int i = 0; i < told; i++) {
                if (time[i] <= until) {
                    cells[cell[i]] = value[i];
                    order[cell[i]] = i;
                }
            }
        }
    }

    /**
     * Marks, what hangs together by them, and the exact least squares over them.
     *
     * A script's worth is the mean of its marks, each with its marker's hardness added. With that the
     * scripts fall out, and equations for the hardness of the markers alone are left. A bundle's least
     * marker has hardness 0, and only markers 1 to 3 can be another than the least: three equations are
     * enough for all bundles at once (a marker that needs none has one that says it is 0). They are taken
     * TWELVE times, since each number of marks that a script can have goes into 12; then all numbers are
     * whole over one divisor, below(), and none of them comes near what a long holds (whole stays below
     * 108 times 108 times 108).
     */
    private static final class Balance {
        static final int TWELVE = 12;
        static final int ROWS = 3;

        final int[] cells = new int[CELLS];
        final int[] hands = new int[SCRIPTS];
        final long[] shares = new long[SCRIPTS];
        final int[] reach = new int[MARKERS];
        final int[] markerBundle = new int[MARKERS];
        final int[] scriptBundle = new int[SCRIPTS];
        final long[] rows = new long[ROWS * ROWS];
        final long[] adjugate = new long[ROWS * ROWS];
        final long[] pull = new long[ROWS];
        final long[] hardness = new long[MARKERS];
        final long[] worths = new long[SCRIPTS];
        long whole = 1;
        int free = 0;
        long worstDoubt = 0;
        int worstFirst = NONE;
        int worstSecond = NONE;
        boolean worstKnown = false;

        long below() {
            return TWELVE * whole;
        }

        void copyWith(Balance other, int cell, int v) {
            for (int i = 0; i < CELLS; i++) {
                cells[i] = i == cell ? v : other.cells[i];
            }
            tie();
        }

        /** What hangs on who marked what alone, not on the marks. */
        void tie() {
            worstKnown = false;
            findHands();
            findReach();
            findBundles();
            layRows();
            invert();
        }

        private void findHands() {
            for (int s = 0; s < SCRIPTS; s++) {
                int bits = 0;
                for (int m = 0; m < MARKERS; m++) {
                    if (cells[MARKERS * s + m] != NONE) {
                        bits |= 1 << m;
                    }
                }
                hands[s] = bits;
                int n = Integer.bitCount(bits);
                shares[s] = n > 0 ? TWELVE / n : 0;
            }
        }

        private void findReach() {
            for (int m = 0; m < MARKERS; m++) {
                int bits = 0;
                for (int s = 0; s < SCRIPTS; s++) {
                    if ((hands[s] >> m & 1) != 0) {
                        bits |= hands[s];
                    }
                }
                reach[m] = bits;
            }
            for (int by = 0; by < MARKERS; by++) {
                for (int m = 0; m < MARKERS; m++) {
                    if ((reach[m] >> by & 1) != 0) {
                        reach[m] |= reach[by];
                    }
                }
            }
        }

        private void findBundles() {
            free = 0;
            for (int m = 0; m < MARKERS; m++) {
                markerBundle[m] = leastBit(reach[m]);
                if (markerBundle[m] != NONE && markerBundle[m] != m) {
                    free |= 1 << m;
                }
            }
            for (int s = 0; s < SCRIPTS; s++) {
                int least = leastBit(hands[s]);
                scriptBundle[s] = least == NONE ? NONE : markerBundle[least];
            }
        }

        private void layRows() {
            for (int i = 0; i < ROWS; i++) {
                for (int j = 0; j < ROWS; j++) {
                    rows[ROWS * i + j] = i == j && !isFree(i + 1) ? 1 : 0;
                }
            }
            for (int s = 0; s < SCRIPTS; s++) {
                for (int i = 0; i < ROWS; i++) {
                    if (isIn(s, i)) {
                        rows[ROWS * i + i] += TWELVE;
                        for (int j = 0; j < ROWS; j++) {
                            rows[ROWS * i + j] -= push(s, j);
                        }
                    }
                }
            }
        }

        private boolean isFree(int marker) {
            return (free >> marker & 1) != 0;
        }

        /** What of twelve a script gives to the equation of row i, which is marker i + 1's. */
        private long push(int script, int i) {
            return isIn(script, i) ? shares[script] : 0;
        }

        private boolean isIn(int script, int i) {
            return (hands[script] & free & 2 << i) != 0;
        }

        private void invert() {
            for (int i = 0; i < ROWS; i++) {
                for (int j = 0; j < ROWS; j++) {
                    adjugate[ROWS * i + j] = cofactor(i, j);
                }
            }
            // The rows are symmetric, so the first one meets its own cofactors in order.
            whole = rows[0] * adjugate[0] + rows[1] * adjugate[1] + rows[2] * adjugate[2];
        }

        private long cofactor(int i, int j) {
            int i1 = ROWS * ((i + 1) % ROWS);
            int i2 = ROWS * ((i + 2) % ROWS);
            int j1 = (j + 1) % ROWS;
            int j2 = (j + 2) % ROWS;
            return rows[i1 + j1] * rows[i2 + j2] - rows[i1 + j2] * rows[i2 + j1];
        }

        /** Hardness over whole, worth over below(). */
        void weigh() {
            findPull();
            for (int m = 0; m < MARKERS; m++) {
                hardness[m] = 0;
            }
            for (int i = 0; i < ROWS; i++) {
                for (int j = 0; j < ROWS; j++) {
                    hardness[i + 1] += adjugate[ROWS * i + j] * pull[j];
                }
            }
            for (int s = 0; s < SCRIPTS; s++) {
                long sum = sumOf(s) * whole;
                for (int m = 0; m < MARKERS; m++) {
                    sum += (hands[s] >> m & 1) != 0 ? hardness[m] : 0;
                }
                worths[s] = shares[s] * sum;
            }
        }

        private void findPull() {
            for (int i = 0; i < ROWS; i++) {
                pull[i] = 0;
                for (int s = 0; s < SCRIPTS; s++) {
                    if (isIn(s, i)) {
                        pull[i] += shares[s] * sumOf(s) - TWELVE * cells[MARKERS * s + i + 1];
                    }
                }
            }
        }

        long sumOf(int script) {
            long sum = 0;
            for (int m = 0; m < MARKERS; m++) {
                sum += Math.max(0, cells[MARKERS * script + m]);
            }
            return sum;
        }

        /** Over below(). */
        long fitOf(int cell) {
            return TWELVE * (cells[cell] * whole + hardness[cell % MARKERS]) - worths[cell / MARKERS];
        }

        /** All amounts of fits of these markers together, over below(). */
        long offAmong(int markers) {
            long sum = 0;
            for (int cell = 0; cell < CELLS; cell++) {
                if (cells[cell] != NONE && (markers >> cell % MARKERS & 1) != 0) {
                    sum += Math.abs(fitOf(cell));
                }
            }
            return sum;
        }

        boolean areTied(int a, int b) {
            return scriptBundle[a] != NONE && scriptBundle[a] == scriptBundle[b];
        }

        /**
         * Over below(). What flows into a script goes on to its markers in like shares, so its own marks
         * are one resistance of 1 by their number; the rest is what the markers' equations make of it.
         */
        long doubtOf(int a, int b) {
            long sum = whole * (shares[a] + shares[b]);
            for (int i = 0; i < ROWS; i++) {
                long flow = push(a, i) - push(b, i);
                for (int j = 0; flow != 0 && j < ROWS; j++) {
                    sum += flow * adjugate[ROWS * i + j] * (push(a, j) - push(b, j));
                }
            }
            return sum;
        }

        void seekWorst() {
            if (worstKnown) {
                return;
            }
            worstKnown = true;
            worstDoubt = 0;
            worstFirst = NONE;
            worstSecond = NONE;
            for (int a = 0; a < SCRIPTS; a++) {
                for (int b = a + 1; b < SCRIPTS; b++) {
                    long doubt = areTied(a, b) ? doubtOf(a, b) : 0;
                    if (doubt > worstDoubt) {
                        worstDoubt = doubt;
                        worstFirst = a;
                        worstSecond = b;
                    }
                }
            }
        }

        /** Whether the script's other markers, without this mark, no longer reach this marker. */
        boolean isBridge(int script, int marker) {
            int reached = hands[script] & ~(1 << marker);
            for (int round = 0; round < MARKERS; round++) {
                for (int s = 0; s < SCRIPTS; s++) {
                    if (s != script && (hands[s] & reached) != 0) {
                        reached |= hands[s];
                    }
                }
            }
            return (reached >> marker & 1) == 0;
        }

        int bridges() {
            int n = 0;
            for (int cell = 0; cell < CELLS; cell++) {
                if (cells[cell] != NONE && isBridge(cell / MARKERS, cell % MARKERS)) {
                    n++;
                }
            }
            return n;
        }

        int bundles() {
            int n = 0;
            for (int m = 0; m < MARKERS; m++) {
                if (markerBundle[m] == m) {
                    n++;
                }
            }
            return n;
        }

        int marksOf(int marker) {
            int n = 0;
            for (int s = 0; s < SCRIPTS; s++) {
                n += hands[s] >> marker & 1;
            }
            return n;
        }

        int marksOfAll() {
            int n = 0;
            for (int s = 0; s < SCRIPTS; s++) {
                n += Integer.bitCount(hands[s]);
            }
            return n;
        }

        int markedScripts() {
            int bits = 0;
            for (int s = 0; s < SCRIPTS; s++) {
                if (hands[s] != 0) {
                    bits |= 1 << s;
                }
            }
            return bits;
        }
    }

    /** The one more mark that does most for the worst doubt; kept until the marks change. */
    private static final class Step {
        boolean known = false;
        int cell = NONE;
        long doubt = 0;
        long below = 1;

        void seek(Balance now, Balance trial) {
            if (known) {
                return;
            }
            known = true;
            cell = NONE;
            for (int c = 0; c < CELLS; c++) {
                if (isOpen(now, c)) {
                    trial.copyWith(now, c, 0);
                    trial.seekWorst();
                    take(c, trial);
                }
            }
        }

        /** A script that the same markers marked as one ahead of it cannot do more than that one. */
        private static boolean isOpen(Balance now, int c) {
            int script = c / MARKERS;
            int bundle = now.scriptBundle[script];
            if (now.cells[c] != NONE || bundle == NONE || bundle != now.markerBundle[c % MARKERS]) {
                return false;
            }
            for (int s = 0; s < script; s++) {
                if (now.hands[s] == now.hands[script]) {
                    return false;
                }
            }
            return true;
        }

        private void take(int c, Balance trial) {
            if (cell == NONE || trial.worstDoubt * below < doubt * trial.below()) {
                cell = c;
                doubt = trial.worstDoubt;
                below = trial.below();
            }
        }
    }

    /** The marks more that make all hang together, at least cost. */
    private static final class Ties {
        final int[] group = new int[MARKERS];
        final int[] picks = new int[MARKERS];
        int length = 0;
        int cost = 0;

        void seek(Balance now, int[] prices) {
            length = 0;
            cost = 0;
            for (int m = 0; m < MARKERS; m++) {
                group[m] = now.markerBundle[m];
            }
            for (int round = 1; round < MARKERS; round++) {
                int cell = cheapest(now, prices);
                if (cell != NONE) {
                    picks[length] = cell;
                    length++;
                    cost += prices[cell % MARKERS];
                    join(group[now.scriptBundle[cell / MARKERS]], group[cell % MARKERS]);
                }
            }
        }

        private int cheapest(Balance now, int[] prices) {
            int best = NONE;
            for (int cell = 0; cell < CELLS; cell++) {
                int bundle = now.scriptBundle[cell / MARKERS];
                int other = group[cell % MARKERS];
                if (bundle != NONE && other != NONE && group[bundle] != other
                        && (best == NONE || prices[cell % MARKERS] < prices[best % MARKERS])) {
                    best = cell;
                }
            }
            return best;
        }

        private void join(int one, int other) {
            for (int m = 0; m < MARKERS; m++) {
                if (group[m] == other) {
                    group[m] = one;
                }
            }
        }
    }

    /** How two markers order the scripts that both marked. */
    private static final class Agreement {
        final int[] first = new int[SCRIPTS];
        final int[] second = new int[SCRIPTS];
        final int[] firstSigns = new int[TOP_DEALT * TOP_DEALT];
        final int[] secondSigns = new int[TOP_DEALT * TOP_DEALT];
        final int[] dealt = new int[TOP_DEALT];
        int length = 0;
        int least = 0;

        void gather(Balance now, int a, int b) {
            length = 0;
            for (int s = 0; s < SCRIPTS; s++) {
                int one = now.cells[MARKERS * s + a];
                int other = now.cells[MARKERS * s + b];
                if (one != NONE && other != NONE) {
                    first[length] = one;
                    second[length] = other;
                    length++;
                }
            }
        }

        int score() {
            int sum = 0;
            for (int p = 0; p < length; p++) {
                for (int q = p + 1; q < length; q++) {
                    sum += sign(first[p], first[q]) * sign(second[p], second[q]);
                }
            }
            return sum;
        }

        int millionths() {
            if (length > TOP_DEALT) {
                return FULL;
            }
            least = score();
            long all = 1;
            for (int p = 0; p < length; p++) {
                all *= p + 1;
                for (int q = 0; q < length; q++) {
                    firstSigns[TOP_DEALT * p + q] = sign(first[p], first[q]);
                    secondSigns[TOP_DEALT * p + q] = sign(second[p], second[q]);
                }
            }
            return all > 0 ? (int) (1000000L * deals(0, 0, 0) / all) : 0;
        }

        /** How many deals of the marks left come to the least score or more; place goes up to seven. */
        private int deals(int place, int used, int sum) {
            if (place >= length || place >= TOP_DEALT) {
                return sum >= least ? 1 : 0;
            }
            int n = 0;
            for (int mark = 0; mark < length; mark++) {
                if ((used >> mark & 1) == 0) {
                    dealt[place] = mark;
                    n += deals(place + 1, used | 1 << mark, sum + gain(place, mark));
                }
            }
            return n;
        }

        private int gain(int place, int mark) {
            int sum = 0;
            for (int p = 0; p < place; p++) {
                sum += firstSigns[TOP_DEALT * place + p] * secondSigns[TOP_DEALT * mark + dealt[p]];
            }
            return sum;
        }

        private static int sign(int a, int b) {
            if (a == b) {
                return 0;
            }
            return a < b ? -1 : 1;
        }
    }

    /** The text of the grades, read anew with each byte, since a later byte can make good or spoil it. */
    private static final class Laws {
        static final int MOST_BYTES = 60;
        static final int LETTERS = 6;
        static final int MOST_FIGURES = 3;
        static final int TOP_TENTHS = 1000;

        final int[] text = new int[MOST_BYTES];
        final int[] letters = new int[LETTERS];
        final int[] floors = new int[LETTERS];
        int length = 0;
        int parts = 0;
        int at = 0;
        int faultAt = 0;

        boolean isFull() {
            return length >= MOST_BYTES;
        }

        void add(int b) {
            if (isFull()) {
                return;
            }
            text[length] = b;
            length++;
            look();
        }

        int clear() {
            int had = length;
            length = 0;
            look();
            return had;
        }

        /** Letters go up, so a part beyond the sixth always has a fault. */
        private void look() {
            parts = 0;
            at = 0;
            faultAt = NONE;
            boolean more = true;
            for (int i = 0; i <= LETTERS && more; i++) {
                more = lookAtPart();
            }
        }

        /** Whether another part must follow. */
        private boolean lookAtPart() {
            int letter = byteAt(at) - 'A';
            int lowest = parts == 0 ? 0 : letters[parts - 1] + 1;
            if (letter < lowest || letter >= LETTERS || parts >= LETTERS) {
                return failAt(at);
            }
            at++;
            if (byteAt(at) != '=') {
                return failAt(at);
            }
            at++;
            int tenths = lookAtNumber();
            if (tenths < 0) {
                return false;
            }
            letters[parts] = letter;
            floors[parts] = tenths;
            parts++;
            if (at == length) {
                return false;
            }
            if (byteAt(at) != ';') {
                return failAt(at);
            }
            at++;
            return true;
        }

        /** In tenths; NONE behind a fault. */
        private int lookAtNumber() {
            int start = at;
            int tenths = 0;
            for (int i = 0; i < MOST_FIGURES && isFigure(at); i++) {
                tenths = 10 * tenths + 10 * (byteAt(at) - '0');
                at++;
            }
            if (at == start) {
                failAt(at);
                return NONE;
            }
            if (byteAt(at) == '.') {
                at++;
                if (!isFigure(at)) {
                    failAt(at);
                    return NONE;
                }
                tenths += byteAt(at) - '0';
                at++;
            }
            if (tenths > TOP_TENTHS || parts > 0 && tenths >= floors[parts - 1]) {
                failAt(start);
                return NONE;
            }
            return tenths;
        }

        private boolean failAt(int place) {
            faultAt = place;
            return false;
        }

        private boolean isFigure(int place) {
            return byteAt(place) >= '0' && byteAt(place) <= '9';
        }

        private int byteAt(int place) {
            return place >= 0 && place < length ? text[place] : NONE;
        }

        /** The grade of above by below and so many tenths. */
        int letterFor(long above, long below, int tenths) {
            for (int i = 0; i < parts; i++) {
                if (10 * above + tenths * below >= floors[i] * below) {
                    return letters[i];
                }
            }
            return LETTERS;
        }
    }

    /** Four rows of at most 48 items; the room for all of them is made once. */
    private static final class Sheets {
        static final int HOW_MANY = 4;
        static final int MOST_ITEMS = 48;
        static final int BYTES = 0;
        static final int SHORTS = 1;
        static final int INTS = 2;

        final int[] items = new int[HOW_MANY * MOST_ITEMS];
        final int[] types = {NONE, NONE, NONE, NONE};
        final int[] sizes = new int[HOW_MANY];

        boolean isLost(int s) {
            return types[s] == NONE;
        }

        void lay(int s, int type, int n) {
            types[s] = type;
            sizes[s] = n;
            for (int i = 0; i < MOST_ITEMS; i++) {
                items[MOST_ITEMS * s + i] = 0;
            }
        }

        void drop(int s) {
            types[s] = NONE;
            sizes[s] = 0;
        }

        /** The finding that stands against item i as of a type; 0 without one. */
        int hindrance(int s, int type, int i) {
            if (isLost(s)) {
                return NULL_FOUND;
            }
            if (types[s] != type) {
                return CAST_FOUND;
            }
            return hasRange(s, i, 1) ? 0 : INDEX_FOUND;
        }

        /** Without a sum that could wrap. */
        boolean hasRange(int s, int i, int n) {
            return i >= 0 && n >= 0 && n <= sizes[s] && i <= sizes[s] - n;
        }

        int item(int s, int i) {
            return items[MOST_ITEMS * s + i];
        }

        void store(int s, int i, int v) {
            items[MOST_ITEMS * s + i] = narrowed(types[s], v);
        }

        private static int narrowed(int type, int v) {
            if (type == BYTES) {
                return (byte) v;
            }
            return type == SHORTS ? (short) v : v;
        }

        void move(int s, int i, int t, int j, int n) {
            System.arraycopy(items, MOST_ITEMS * s + i, items, MOST_ITEMS * t + j, n);
        }
    }
}
