import java.util.ArrayList;
import java.util.List;
import java.util.Random;

/** Long runs of calls, most of them as told and some not, held against the oracle call by call. */
public final class OracleTest {
    private static final int RUNS = 600;
    private static final int CALLS = 512;

    private final Random dice;
    private final MarkedHands hands = new MarkedHands();
    private final Oracle oracle = new Oracle();
    private final List<String> rows = new ArrayList<>();
    private final int scripts;
    private final int markers;
    private final int spread;
    private int time = 0;
    private boolean right = true;

    private OracleTest(long seed) {
        dice = new Random(seed);
        scripts = 2 + dice.nextInt(11);
        markers = 1 + dice.nextInt(4);
        spread = new int[] {3, 12, 101}[dice.nextInt(3)];
    }

    public static void main(String[] args) {
        int wrong = 0;
        for (long seed = 1; seed <= RUNS && wrong < 3; seed++) {
            wrong += new OracleTest(seed).run(seed) ? 0 : 1;
        }
        System.out.println(wrong == 0 ? "all runs are as the oracle has them" : wrong + " runs are not");
        if (wrong != 0) {
            System.exit(1);
        }
    }

    private boolean run(long seed) {
        int quiet = dice.nextInt(3) == 0 ? 0 : dice.nextInt(60);
        // One turn can be some sixty calls (a text of grades), and past CALLS answers are free.
        while (rows.size() < CALLS - 65 && right) {
            call(rows.size() < quiet ? 0 : dice.nextInt(100));
        }
        if (!right) {
            System.out.println("seed " + seed + ":");
            rows.forEach(System.out::println);
        }
        return right;
    }

    private void due(String call, long got, long want) {
        rows.add("  " + call + " answered " + got + (got == want ? "" : ", due is " + want));
        right &= got == want;
    }

    /** Once in a while a number that is off, near the bound or far. */
    private int up(int bound) {
        int[] off = {-1, -2, bound, bound + 1, Integer.MAX_VALUE, Integer.MIN_VALUE};
        return dice.nextInt(40) == 0 ? off[dice.nextInt(off.length)] : dice.nextInt(bound);
    }

    private int script() {
        return dice.nextInt(10) == 0 ? up(12) : dice.nextInt(scripts);
    }

    private int marker() {
        return dice.nextInt(10) == 0 ? up(4) : dice.nextInt(markers);
    }

    private void call(int which) {
        if (which < 20) {
            tellMark();
        } else if (which < 30) {
            askMarks(dice.nextInt(4));
        } else if (which < 42) {
            askWorth(dice.nextInt(5));
        } else if (which < 58) {
            askGrades(dice.nextInt(12));
        } else if (which < 70) {
            askDoubts(dice.nextInt(6));
        } else if (which < 80) {
            askMarkers(dice.nextInt(4));
        } else if (which < 95) {
            askSheets(dice.nextInt(8));
        } else {
            askAll(dice.nextInt(2));
        }
    }

    private void tellMark() {
        time += dice.nextInt(6) == 0 ? dice.nextInt(20) : 0;
        int s = script();
        int m = marker();
        int v = dice.nextInt(5) == 0 ? -1 : dice.nextInt(30) == 0 ? up(101) : dice.nextInt(spread);
        int t = dice.nextInt(30) == 0 ? up(1000) : Math.min(999, time);
        int got = hands.mark(s, m, v, t);
        due("mark(" + s + ", " + m + ", " + v + ", " + t + ")", got, oracle.mark(s, m, v, t));
        time = got >= 0 ? Math.max(time, t) : time;
    }

    private void askMarks(int which) {
        int s = script();
        int m = marker();
        switch (which) {
            case 0:
                int t = dice.nextInt(3) == 0 ? 999 : dice.nextInt(5) == 0 ? up(1000) : dice.nextInt(time + 2);
                due("asOf(" + t + ")", hands.asOf(t), oracle.asOf(t));
                break;
            case 1:
                due("has(" + s + ", " + m + ")", hands.has(s, m), oracle.has(s, m));
                break;
            case 2:
                int what = up(2);
                int one = what == 1 ? m : s;
                due("bundle(" + what + ", " + one + ")", hands.bundle(what, one), oracle.bundle(what, one));
                break;
            default:
                readSheet();
        }
    }

    /** A sheet with some marks on it, one of them perhaps off, is read. */
    private void readSheet() {
        int s = up(4);
        int n = dice.nextInt(20);
        int type = dice.nextInt(3);
        due("sheet(" + s + ", " + type + ", " + n + ")", hands.sheet(s, type, n), oracle.sheet(s, type, n));
        for (int i = 0; i < n && right; i++) {
            int v = i % 3 == 0 ? script() : i % 3 == 1 ? marker() : dice.nextInt(spread);
            due("put(" + s + ", " + type + ", " + i + ", " + v + ")", hands.put(s, type, i, v), oracle.put(s, type, i, v));
        }
        int t = dice.nextInt(6) == 0 ? up(1000) : time;
        due("read(" + s + ", " + t + ")", hands.read(s, t), oracle.read(s, t));
        time = Math.max(time, hands.count(3));
    }

    private void askWorth(int which) {
        int s = script();
        int m = marker();
        int w = up(2);
        switch (which) {
            case 0:
                due("hard(" + m + ", " + w + ")", hands.hard(m, w), oracle.hard(m, w));
                break;
            case 1:
                due("worth(" + s + ", " + w + ")", hands.worth(s, w), oracle.worth(s, w));
                break;
            case 2:
                due("fit(" + s + ", " + m + ", " + w + ")", hands.fit(s, m, w), oracle.fit(s, m, w));
                break;
            case 3:
                due("off(" + m + ", " + w + ")", hands.off(m, w), oracle.off(m, w));
                break;
            default:
                due("rank(" + s + ", " + w + ")", hands.rank(s, w), oracle.rank(s, w));
        }
    }

    private void askGrades(int which) {
        int s = script();
        switch (which) {
            case 0:
                due("wipe()", hands.wipe(), oracle.wipe());
                typeLaws();
                break;
            case 1:
                int b = dice.nextInt(3) == 0 ? up(256) : "ABCDEF=;.0123456789".charAt(dice.nextInt(19));
                due("type(" + b + ")", hands.type(b), oracle.type(b));
                break;
            case 2:
                due("fault()", hands.fault(), oracle.fault());
                break;
            case 3: case 4: case 5:
                due("grade(" + s + ")", hands.grade(s), oracle.grade(s));
                break;
            case 6: case 7: case 8:
                due("hangs(" + s + ")", hands.hangs(s), oracle.hangs(s));
                break;
            default:
                int m = marker();
                int t = dice.nextInt(8) == 0 ? up(2001) - 1000 : dice.nextInt(10 * spread) - 5 * spread;
                due("misses(" + m + ", " + t + ")", hands.misses(m, t), oracle.misses(m, t));
        }
    }

    private void typeLaws() {
        StringBuilder text = new StringBuilder();
        int number = dice.nextInt(2) == 0 ? 1000 : 10 * spread;
        for (char c = 'A'; c <= 'F' && number > 0; c++) {
            number -= dice.nextInt(Math.max(2, number / 3));
            if (dice.nextInt(3) != 0) {
                text.append(text.length() == 0 ? "" : ";").append(c).append('=').append(number / 10);
                text.append(number % 10 == 0 && dice.nextBoolean() ? "" : "." + number % 10);
            }
        }
        if (text.length() > 0 && dice.nextInt(4) == 0) {
            text.setCharAt(dice.nextInt(text.length()), "ABCDEF=;.0123456789x".charAt(dice.nextInt(20)));
        }
        for (int i = 0; i < text.length() && right; i++) {
            int b = text.charAt(i);
            due("type(" + b + ")", hands.type(b), oracle.type(b));
        }
        due("fault()", hands.fault(), oracle.fault());
    }

    private void askDoubts(int which) {
        int s = script();
        int m = marker();
        switch (which) {
            case 0:
                int b = script();
                int w = up(2);
                due("doubt(" + s + ", " + b + ", " + w + ")", hands.doubt(s, b, w), oracle.doubt(s, b, w));
                break;
            case 1:
                int worst = up(4);
                due("worst(" + worst + ")", hands.worst(worst), oracle.worst(worst));
                break;
            case 2:
                int next = up(4);
                due("next(" + next + ")", hands.next(next), oracle.next(next));
                break;
            case 3:
                due("bridge(" + s + ", " + m + ")", hands.bridge(s, m), oracle.bridge(s, m));
                break;
            case 4:
                int v = dice.nextInt(4) == 0 ? up(100) : dice.nextInt(4);
                due("price(" + m + ", " + v + ")", hands.price(m, v), oracle.price(m, v));
                break;
            default:
                int i = dice.nextInt(20) == 0 ? up(3) : dice.nextInt(5) - 1;
                due("tied(" + i + ")", hands.tied(i), oracle.tied(i));
        }
    }

    private void askMarkers(int which) {
        int s = script();
        int m = marker();
        int w = up(2);
        switch (which) {
            case 0:
                due("drift(" + m + ", " + w + ")", hands.drift(m, w), oracle.drift(m, w));
                break;
            case 1:
                int b = marker();
                due("agree(" + m + ", " + b + ", " + w + ")", hands.agree(m, b, w), oracle.agree(m, b, w));
                break;
            case 2:
                due("odd()", hands.odd(), oracle.odd());
                break;
            default:
                due("without(" + s + ", " + m + ", " + w + ")", hands.without(s, m, w), oracle.without(s, m, w));
        }
    }

    private void askSheets(int which) {
        int s = up(4);
        int t = up(4);
        int type = dice.nextInt(4) == 0 ? up(3) : 2;
        int i = dice.nextInt(10) - 1;
        int n = dice.nextInt(8) == 0 ? up(49) : dice.nextInt(16);
        switch (which) {
            case 0:
                due("sheet(" + s + ", " + type + ", " + n + ")", hands.sheet(s, type, n), oracle.sheet(s, type, n));
                break;
            case 1:
                due("lose(" + s + ")", hands.lose(s), oracle.lose(s));
                break;
            case 2: case 3:
                int v = dice.nextInt();
                due("put(" + s + ", " + type + ", " + i + ", " + v + ")", hands.put(s, type, i, v), oracle.put(s, type, i, v));
                break;
            case 4: case 5:
                due("get(" + s + ", " + type + ", " + i + ")", hands.get(s, type, i), oracle.get(s, type, i));
                break;
            case 6:
                int j = dice.nextInt(8) - 1;
                int k = dice.nextInt(10) == 0 ? up(49) : dice.nextInt(5);
                due("copy(" + s + ", " + i + ", " + t + ", " + j + ", " + k + ")",
                        hands.copy(s, i, t, j, k), oracle.copy(s, i, t, j, k));
                break;
            default:
                int m = marker();
                due("write(" + m + ", " + s + ")", hands.write(m, s), oracle.write(m, s));
        }
    }

    private void askAll(int which) {
        if (which == 0) {
            due("digest()", hands.digest(), oracle.digest());
            return;
        }
        int what = up(9);
        due("count(" + what + ")", hands.count(what), oracle.count(what));
    }
}
