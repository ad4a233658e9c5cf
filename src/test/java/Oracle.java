import java.util.ArrayList;
import java.util.Arrays;
import java.util.List;

/**
 * The document once more, written another way than the class: all equations of scripts and markers at
 * once, in fractions without a bound, bundles by walking the net, the next mark by the change that one
 * more way makes to the inverse, the text of grades byte by byte.
 */
final class Oracle {
    static final int NONE = -1, BAD = -2, NOT = -3, FULL = -4;
    static final int NODES = 16;

    private final List<int[]> told = new ArrayList<>();
    private int asOf = 999;
    private int lastTime = 0;
    private int finding = 0;
    private final int[] prices = {1, 1, 1, 1};
    private final StringBuilder grades = new StringBuilder();
    private final long[][] sheets = new long[4][];
    private final int[] types = new int[4];
    private Net net = null;

    /** Scripts are nodes 0 to 11, markers 12 to 15. */
    static final class Net {
        final int[][] marks = new int[12][4];
        final int[][] when = new int[12][4];
        final int[] bundle = new int[NODES];
        Fraction[] level = new Fraction[NODES];
        Fraction[][] inverse = null;

        Net() {
            for (int s = 0; s < 12; s++) {
                Arrays.fill(marks[s], NONE);
            }
        }

        Net without(int script, int marker) {
            Net n = new Net();
            for (int s = 0; s < 12; s++) {
                n.marks[s] = marks[s].clone();
            }
            n.marks[script][marker] = NONE;
            n.walk();
            n.solve();
            return n;
        }

        boolean joined(int a, int b) {
            if (a > b) {
                return joined(b, a);
            }
            return a < 12 && b >= 12 && marks[a][b - 12] != NONE;
        }

        int degree(int node) {
            int d = 0;
            for (int o = 0; o < NODES; o++) {
                d += joined(node, o) ? 1 : 0;
            }
            return d;
        }

        void walk() {
            Arrays.fill(bundle, NONE);
            for (int m = 12; m < NODES; m++) {
                if (bundle[m] == NONE && degree(m) > 0) {
                    flood(m, m - 12);
                }
            }
        }

        private void flood(int node, int number) {
            bundle[node] = number;
            for (int o = 0; o < NODES; o++) {
                if (joined(node, o) && bundle[o] == NONE) {
                    flood(o, number);
                }
            }
        }

        int pieces() {
            int n = 0;
            for (int m = 0; m < 4; m++) {
                n += bundle[12 + m] == m ? 1 : 0;
            }
            return n;
        }

        private boolean isGround(int node) {
            return bundle[node] == NONE || node >= 12 && bundle[node] == node - 12;
        }

        /** mark = worth - hard: with the hardness of the markers' sign turned round it is a net's law. */
        void solve() {
            Fraction[][] a = new Fraction[NODES][2 * NODES];
            Fraction[] right = new Fraction[NODES];
            for (int i = 0; i < NODES; i++) {
                for (int j = 0; j < 2 * NODES; j++) {
                    a[i][j] = j == NODES + i ? Fraction.ONE : Fraction.ZERO;
                }
                right[i] = Fraction.ZERO;
                if (isGround(i)) {
                    a[i][i] = Fraction.ONE;
                    continue;
                }
                a[i][i] = Fraction.of(degree(i), 1);
                for (int o = 0; o < NODES; o++) {
                    if (joined(i, o)) {
                        if (!isGround(o)) {
                            a[i][o] = Fraction.of(-1, 1);
                        }
                        long v = i < 12 ? marks[i][o - 12] : -marks[o][i - 12];
                        right[i] = right[i].plus(Fraction.of(v, 1));
                    }
                }
            }
            reduce(a);
            inverse = new Fraction[NODES][NODES];
            for (int i = 0; i < NODES; i++) {
                level[i] = Fraction.ZERO;
                for (int j = 0; j < NODES; j++) {
                    boolean grounded = isGround(i) || isGround(j);
                    inverse[i][j] = grounded ? Fraction.ZERO : a[i][NODES + j];
                    level[i] = level[i].plus(inverse[i][j].times(right[j]));
                }
            }
        }

        private static void reduce(Fraction[][] a) {
            for (int c = 0; c < NODES; c++) {
                int p = c;
                while (a[p][c].isZero()) {
                    p++;
                }
                Fraction[] row = a[p];
                a[p] = a[c];
                a[c] = row;
                Fraction lead = row[c];
                for (int j = 0; j < 2 * NODES; j++) {
                    row[j] = row[j].isZero() ? row[j] : row[j].by(lead);
                }
                for (int i = 0; i < NODES; i++) {
                    Fraction f = a[i][c];
                    if (i != c && !f.isZero()) {
                        for (int j = 0; j < 2 * NODES; j++) {
                            a[i][j] = row[j].isZero() ? a[i][j] : a[i][j].minus(f.times(row[j]));
                        }
                    }
                }
            }
        }

        Fraction resistance(int a, int b) {
            return inverse[a][a].plus(inverse[b][b]).minus(inverse[a][b]).minus(inverse[b][a]);
        }

        /** With one way of resistance 1 more, between c and d. */
        Fraction resistanceWith(int a, int b, int c, int d) {
            Fraction across = inverse[a][c].minus(inverse[a][d]).minus(inverse[b][c]).plus(inverse[b][d]);
            return resistance(a, b).minus(across.times(across).by(Fraction.ONE.plus(resistance(c, d))));
        }

        Fraction fit(int s, int m) {
            return Fraction.of(marks[s][m], 1).minus(level[s].minus(level[12 + m]));
        }

        Fraction mean(int s) {
            long sum = 0;
            for (int v : marks[s]) {
                sum += v == NONE ? 0 : v;
            }
            return Fraction.of(sum, degree(s));
        }
    }

    private Net net() {
        if (net == null) {
            net = new Net();
            for (int i = 0; i < told.size(); i++) {
                int[] t = told.get(i);
                if (t[3] <= asOf) {
                    net.marks[t[0]][t[1]] = t[2];
                    net.when[t[0]][t[1]] = i;
                }
            }
            net.walk();
            net.solve();
        }
        return net;
    }

    private static boolean in(int v, int low, int high) {
        return v >= low && v <= high;
    }

    private static long l(int refusal) {
        return Long.MIN_VALUE + Math.abs(refusal);
    }

    private int found(int number) {
        finding = number;
        return -10 - number;
    }

    int mark(int script, int marker, int v, int time) {
        if (!in(script, 0, 11) || !in(marker, 0, 3) || !in(v, -1, 100) || !in(time, lastTime, 999)) {
            return BAD;
        }
        if (told.size() == 100) {
            return FULL;
        }
        told.add(new int[] {script, marker, v, time});
        lastTime = time;
        net = null;
        return told.size();
    }

    int read(int s, int time) {
        if (!in(s, 0, 3) || !in(time, lastTime, 999)) {
            return BAD;
        }
        if (sheets[s] == null) {
            return found(1);
        }
        int n = 0;
        while (3 * n + 2 < sheets[s].length) {
            int answer = mark((int) sheets[s][3 * n], (int) sheets[s][3 * n + 1], (int) sheets[s][3 * n + 2], time);
            if (answer < 0) {
                break;
            }
            n++;
        }
        return n;
    }

    int asOf(int time) {
        if (!in(time, 0, 999)) {
            return BAD;
        }
        int was = asOf;
        asOf = time;
        net = null;
        return was;
    }

    int has(int script, int marker) {
        return in(script, 0, 11) && in(marker, 0, 3) ? net().marks[script][marker] : BAD;
    }

    int bundle(int what, int which) {
        if (what == 0) {
            return in(which, 0, 11) ? net().bundle[which] : BAD;
        }
        return what == 1 && in(which, 0, 3) ? net().bundle[12 + which] : BAD;
    }

    long hard(int marker, int what) {
        if (!in(marker, 0, 3) || !in(what, 0, 1)) {
            return l(BAD);
        }
        return net().bundle[12 + marker] == NONE ? l(NOT) : net().level[12 + marker].side(what);
    }

    long worth(int script, int what) {
        if (!in(script, 0, 11) || !in(what, 0, 1)) {
            return l(BAD);
        }
        return net().bundle[script] == NONE ? l(NOT) : net().level[script].side(what);
    }

    long fit(int script, int marker, int what) {
        if (!in(script, 0, 11) || !in(marker, 0, 3) || !in(what, 0, 1)) {
            return l(BAD);
        }
        return net().marks[script][marker] == NONE ? l(NOT) : net().fit(script, marker).side(what);
    }

    private static Fraction off(Net n, int[] bundles, int number) {
        Fraction sum = Fraction.ZERO;
        for (int s = 0; s < 12; s++) {
            for (int m = 0; m < 4; m++) {
                if (n.marks[s][m] != NONE && bundles[s] == number) {
                    sum = sum.plus(n.fit(s, m).amount());
                }
            }
        }
        return sum;
    }

    long off(int bundle, int what) {
        if (!in(bundle, 0, 3) || !in(what, 0, 1)) {
            return l(BAD);
        }
        return net().bundle[12 + bundle] != bundle ? l(NOT) : off(net(), net().bundle, bundle).side(what);
    }

    int rank(int script, int how) {
        if (!in(script, 0, 11) || !in(how, 0, 1)) {
            return BAD;
        }
        if (net().bundle[script] == NONE) {
            return NOT;
        }
        int rank = 1;
        for (int s = 0; s < 12; s++) {
            if (net().bundle[s] == net().bundle[script]) {
                Fraction mine = how == 0 ? net().level[script] : net().mean(script);
                Fraction other = how == 0 ? net().level[s] : net().mean(s);
                rank += other.compareTo(mine) > 0 ? 1 : 0;
            }
        }
        return rank;
    }

    int type(int b) {
        if (!in(b, 0, 255)) {
            return BAD;
        }
        if (grades.length() == 60) {
            return FULL;
        }
        grades.append((char) b);
        return grades.length();
    }

    int wipe() {
        int n = grades.length();
        grades.setLength(0);
        return n;
    }

    private final List<int[]> parts = new ArrayList<>();

    /** One byte after the other; the end of the text stands as a byte of its own (0 to 255 are no such). */
    int fault() {
        parts.clear();
        String text = grades.toString() + (char) 1000;
        String want = "letter";
        int letter = 0;
        int start = 0;
        int figures = 0;
        int tenths = 0;
        for (int i = 0; i < text.length(); i++) {
            char c = text.charAt(i);
            boolean figure = c >= '0' && c <= '9';
            boolean last = c == 1000;
            switch (want) {
                case "letter":
                    letter = c - 'A';
                    if (!in(letter, parts.isEmpty() ? 0 : parts.get(parts.size() - 1)[0] + 1, 5)) {
                        return i;
                    }
                    want = "=";
                    break;
                case "=":
                    if (c != '=') {
                        return i;
                    }
                    want = "number";
                    start = i + 1;
                    figures = 0;
                    tenths = 0;
                    break;
                case "tenth":
                    if (!figure) {
                        return i;
                    }
                    tenths += c - '0';
                    want = "end";
                    break;
                case "number":
                    if (figure && figures < 3) {
                        figures++;
                        tenths = tenths * 10 + (c - '0') * 10;
                        break;
                    }
                    if (figures == 0) {
                        return i;
                    }
                    if (c == '.') {
                        want = "tenth";
                        break;
                    }
                    want = "end";
                    // the number is whole, and this byte is looked at as what follows it
                default:
                    int ahead = parts.isEmpty() ? 1001 : parts.get(parts.size() - 1)[1];
                    if (tenths >= ahead) {
                        return start;
                    }
                    if (last) {
                        parts.add(new int[] {letter, tenths});
                        return NONE;
                    }
                    if (c != ';') {
                        return i;
                    }
                    parts.add(new int[] {letter, tenths});
                    want = "letter";
            }
        }
        throw new IllegalStateException("the end of the text was not seen");
    }

    private int letter(Fraction worth) {
        for (int[] part : parts) {
            if (worth.compareTo(Fraction.of(part[1], 10)) >= 0) {
                return part[0];
            }
        }
        return 6;
    }

    int grade(int script) {
        if (!in(script, 0, 11)) {
            return BAD;
        }
        return fault() != NONE || net().bundle[script] == NONE ? NOT : letter(net().level[script]);
    }

    int hangs(int script) {
        int g = grade(script);
        if (g < 0) {
            return g;
        }
        return letter(net().mean(script)) == g ? 0 : 1;
    }

    int misses(int bundle, int tenths) {
        if (!in(bundle, 0, 3) || !in(tenths, -1000, 1000)) {
            return BAD;
        }
        if (fault() != NONE || net().bundle[12 + bundle] != bundle) {
            return NOT;
        }
        int n = 0;
        for (int s = 0; s < 12; s++) {
            Fraction w = net().level[s];
            if (net().bundle[s] == bundle && letter(w) != letter(w.plus(Fraction.of(tenths, 10)))) {
                n++;
            }
        }
        return n;
    }

    private boolean oneBundle(int a, int b) {
        return net().bundle[a] != NONE && net().bundle[a] == net().bundle[b];
    }

    long doubt(int a, int b, int what) {
        if (!in(a, 0, 11) || !in(b, 0, 11) || a == b || !in(what, 0, 1)) {
            return l(BAD);
        }
        return oneBundle(a, b) ? net().resistance(a, b).side(what) : l(NOT);
    }

    long worst(int what) {
        if (!in(what, 0, 3)) {
            return l(BAD);
        }
        Fraction worst = null;
        int first = NONE;
        int second = NONE;
        for (int a = 11; a >= 0; a--) {
            for (int b = 11; b > a; b--) {
                if (oneBundle(a, b) && (worst == null || net().resistance(a, b).compareTo(worst) >= 0)) {
                    worst = net().resistance(a, b);
                    first = a;
                    second = b;
                }
            }
        }
        if (worst == null) {
            return l(NOT);
        }
        return what < 2 ? worst.side(what) : what == 2 ? first : second;
    }

    long next(int what) {
        if (!in(what, 0, 3)) {
            return l(BAD);
        }
        Fraction least = null;
        int cell = NONE;
        for (int c = 0; c < 48; c++) {
            int s = c / 4;
            int m = 12 + c % 4;
            if (net().bundle[s] != NONE && net().bundle[s] == net().bundle[m] && !net().joined(s, m)) {
                Fraction worst = worstWith(s, m);
                if (least == null || worst.compareTo(least) < 0) {
                    least = worst;
                    cell = c;
                }
            }
        }
        if (least == null) {
            return l(NOT);
        }
        return what == 0 ? cell / 4 : what == 1 ? cell % 4 : least.side(what - 2);
    }

    private Fraction worstWith(int s, int m) {
        Fraction worst = Fraction.ZERO;
        for (int a = 0; a < 12; a++) {
            for (int b = a + 1; b < 12; b++) {
                if (oneBundle(a, b)) {
                    Fraction r = net().resistanceWith(a, b, s, m);
                    worst = r.compareTo(worst) > 0 ? r : worst;
                }
            }
        }
        return worst;
    }

    /** A way is a bridge when nothing flows beside it: its resistance is its own. */
    int bridge(int script, int marker) {
        if (!in(script, 0, 11) || !in(marker, 0, 3)) {
            return BAD;
        }
        if (net().marks[script][marker] == NONE) {
            return NOT;
        }
        return net().resistance(script, 12 + marker).compareTo(Fraction.ONE) == 0 ? 1 : 0;
    }

    int price(int marker, int v) {
        if (!in(marker, 0, 3) || !in(v, 0, 99)) {
            return BAD;
        }
        int was = prices[marker];
        prices[marker] = v;
        return was;
    }

    int tied(int i) {
        if (i < NONE) {
            return BAD;
        }
        List<Integer> all = new ArrayList<>();
        for (int c = 0; c < 48; c++) {
            all.add(c);
        }
        all.sort((a, b) -> prices[a % 4] != prices[b % 4] ? prices[a % 4] - prices[b % 4] : a - b);
        int[] group = net().bundle.clone();
        List<Integer> picks = new ArrayList<>();
        int cost = 0;
        for (int c : all) {
            int one = group[c / 4];
            int other = group[12 + c % 4];
            if (one != NONE && other != NONE && one != other) {
                picks.add(c);
                cost += prices[c % 4];
                for (int n = 0; n < NODES; n++) {
                    group[n] = group[n] == other ? one : group[n];
                }
            }
        }
        if (i == NONE) {
            return cost;
        }
        return i < picks.size() ? picks.get(i) : NONE;
    }

    long drift(int marker, int what) {
        if (!in(marker, 0, 3) || !in(what, 0, 1)) {
            return l(BAD);
        }
        List<Integer> scripts = new ArrayList<>();
        for (int s = 0; s < 12; s++) {
            if (net().marks[s][marker] != NONE) {
                scripts.add(s);
            }
        }
        scripts.sort((a, b) -> net().when[a][marker] - net().when[b][marker]);
        int n = scripts.size();
        if (n < 2) {
            return l(NOT);
        }
        Fraction early = Fraction.ZERO;
        Fraction late = Fraction.ZERO;
        for (int i = 0; i < n / 2; i++) {
            early = early.plus(net().fit(scripts.get(i), marker));
            late = late.plus(net().fit(scripts.get(n - 1 - i), marker));
        }
        Fraction half = Fraction.of(n / 2, 1);
        return late.by(half).minus(early.by(half)).side(what);
    }

    private static int agreeing(List<Integer> x, List<Integer> y) {
        int sum = 0;
        for (int i = 0; i < x.size(); i++) {
            for (int j = 0; j < i; j++) {
                sum += Integer.signum(x.get(i) - x.get(j)) * Integer.signum(y.get(i) - y.get(j));
            }
        }
        return sum;
    }

    int agree(int a, int b, int how) {
        if (!in(a, 0, 3) || !in(b, 0, 3) || a == b || !in(how, 0, 1)) {
            return BAD;
        }
        List<Integer> x = new ArrayList<>();
        List<Integer> y = new ArrayList<>();
        for (int s = 0; s < 12; s++) {
            if (net().marks[s][a] != NONE && net().marks[s][b] != NONE) {
                x.add(net().marks[s][a]);
                y.add(net().marks[s][b]);
            }
        }
        if (x.size() < 2) {
            return NOT;
        }
        if (how == 0) {
            return agreeing(x, y);
        }
        if (x.size() > 7) {
            return FULL;
        }
        long[] counts = new long[2];
        deal(x, y, new ArrayList<>(), agreeing(x, y), counts);
        return (int) (counts[0] * 1000000 / counts[1]);
    }

    private static void deal(List<Integer> x, List<Integer> left, List<Integer> dealt, int least, long[] counts) {
        if (left.isEmpty()) {
            counts[0] += agreeing(x, dealt) >= least ? 1 : 0;
            counts[1]++;
            return;
        }
        for (int i = 0; i < left.size(); i++) {
            List<Integer> rest = new ArrayList<>(left);
            List<Integer> more = new ArrayList<>(dealt);
            more.add(rest.remove(i));
            deal(x, rest, more, least, counts);
        }
    }

    int odd() {
        Fraction most = null;
        int cell = NONE;
        for (int c = 47; c >= 0; c--) {
            if (net().marks[c / 4][c % 4] != NONE) {
                Fraction f = net().fit(c / 4, c % 4).amount();
                if (most == null || f.compareTo(most) >= 0) {
                    most = f;
                    cell = c;
                }
            }
        }
        return cell;
    }

    long without(int script, int marker, int what) {
        if (!in(script, 0, 11) || !in(marker, 0, 3) || !in(what, 0, 1)) {
            return l(BAD);
        }
        if (net().marks[script][marker] == NONE) {
            return l(NOT);
        }
        return off(net().without(script, marker), net().bundle, net().bundle[script]).side(what);
    }

    int sheet(int s, int type, int n) {
        if (!in(s, 0, 3) || !in(type, 0, 2) || n > 48) {
            return BAD;
        }
        if (n < 0) {
            return found(5);
        }
        sheets[s] = new long[n];
        types[s] = type;
        return n;
    }

    int lose(int s) {
        if (!in(s, 0, 3)) {
            return BAD;
        }
        if (sheets[s] == null) {
            return found(1);
        }
        int n = sheets[s].length;
        sheets[s] = null;
        return n;
    }

    private int against(int s, int type, int i) {
        if (sheets[s] == null) {
            return 1;
        }
        if (types[s] != type) {
            return 3;
        }
        return in(i, 0, sheets[s].length - 1) ? 0 : 2;
    }

    /** The lowest bits, as a number with a sign. */
    private static long lowest(int type, int v) {
        int bits = 8 << type;
        long low = Math.floorMod((long) v, 1L << bits);
        return low >= 1L << (bits - 1) ? low - (1L << bits) : low;
    }

    int put(int s, int type, int i, int v) {
        if (!in(s, 0, 3) || !in(type, 0, 2)) {
            return BAD;
        }
        int against = against(s, type, i);
        if (against != 0) {
            return found(against);
        }
        sheets[s][i] = lowest(type, v);
        return 1;
    }

    int get(int s, int type, int i) {
        if (!in(s, 0, 3) || !in(type, 0, 2)) {
            return Integer.MIN_VALUE;
        }
        int against = against(s, type, i);
        if (against != 0) {
            finding = against;
            return Integer.MIN_VALUE;
        }
        return (int) sheets[s][i];
    }

    int copy(int s, int i, int t, int j, int n) {
        if (!in(s, 0, 3) || !in(t, 0, 3)) {
            return BAD;
        }
        if (sheets[s] == null || sheets[t] == null) {
            return found(1);
        }
        if (types[s] != types[t]) {
            return found(4);
        }
        if (i < 0 || j < 0 || n < 0 || (long) i + n > sheets[s].length || (long) j + n > sheets[t].length) {
            return found(2);
        }
        long[] were = sheets[s].clone();
        for (int k = 0; k < n; k++) {
            sheets[t][j + k] = were[i + k];
        }
        return 1;
    }

    int write(int marker, int s) {
        if (!in(marker, 0, 3) || !in(s, 0, 3)) {
            return BAD;
        }
        if (sheets[s] == null) {
            return found(1);
        }
        int n = 0;
        while (n < sheets[s].length && n < 12) {
            sheets[s][n] = net().marks[n][marker];
            n++;
        }
        return n;
    }

    int count(int what) {
        int marks = 0;
        int bridges = 0;
        int bits = 0;
        for (int c = 0; c < 48; c++) {
            if (net().marks[c / 4][c % 4] != NONE) {
                marks++;
                bridges += what == 6 ? bridge(c / 4, c % 4) : 0;
                bits |= 1 << c / 4;
            }
        }
        int[] all = {marks, told.size(), asOf, lastTime, net().pieces(), grades.length(), bridges, bits, finding};
        return in(what, 0, 8) ? all[what] : BAD;
    }

    long digest() {
        List<Long> row = new ArrayList<>();
        for (int i = 0; i < 8; i++) {
            row.add((long) count(i));
        }
        for (int s = 0; s < 12; s++) {
            for (int m = 0; m < 4; m++) {
                row.add((long) has(s, m));
            }
            row.add(worth(s, 0));
            row.add(worth(s, 1));
        }
        for (int m = 0; m < 4; m++) {
            row.add(hard(m, 0));
            row.add(hard(m, 1));
        }
        for (int i = 0; i < 4; i++) {
            row.add(worst(i));
        }
        row.add((long) fault());
        row.add((long) odd());
        long h = 17;
        for (long v : row) {
            h = 31 * h + v;
        }
        return h;
    }
}
