import java.lang.reflect.Method;
import java.util.ArrayList;
import java.util.List;
import java.util.regex.Matcher;
import java.util.regex.Pattern;

/**
 * Runs of calls told as text, a row "name(1, 2) = answer" each, on one object. An answer is a number or a
 * word: NONE, BAD, NOT, FULL (of a call that answers a long, as the least long and so much more), NULL,
 * INDEX, CAST, STORE, SIZE, LEAST (the least int). "name(..)" alone is called, and its answer is free.
 * "a/b" behind a call "name(..)" whose last number would say above or below asks for both. "9 x name(..)"
 * is called nine times. type("..") makes GRADES that text.
 */
final class Runs {
    private static final Pattern ROW = Pattern.compile("(?:(\\d+) x )?(\\w+)\\(([^)]*)\\)\\s*(?:=\\s*(\\S+))?");
    private static int rows = 0;
    private static int wrong = 0;

    private final String name;
    private final MarkedHands hands = new MarkedHands();
    private final List<String> answers = new ArrayList<>();

    private Runs(String name) {
        this.name = name;
    }

    static void run(String name, String text) {
        new Runs(name).rows(text);
    }

    /** What a new object answers, call by call. */
    static List<String> answers(String name, String text) {
        Runs run = new Runs(name);
        run.rows(text);
        return run.answers;
    }

    static void check(boolean right, String what) {
        rows++;
        if (!right) {
            wrong++;
            System.out.println(what);
        }
    }

    private void rows(String text) {
        for (String row : text.split("\n")) {
            String plain = row.replaceAll("#.*", "").trim();
            if (!plain.isEmpty()) {
                row(plain);
            }
        }
    }

    static void end() {
        System.out.println(wrong == 0 ? "all " + rows + " answers are as due" : wrong + " answers are not as due");
        if (wrong != 0 || rows == 0) {
            System.exit(1);
        }
    }

    private void row(String row) {
        Matcher m = ROW.matcher(row);
        if (!m.matches()) {
            throw new IllegalArgumentException("no such row: " + row);
        }
        int times = m.group(1) == null ? 1 : Integer.parseInt(m.group(1));
        for (int i = 0; i < times; i++) {
            row(m.group(2), m.group(3).trim(), m.group(4));
        }
    }

    private void row(String method, String args, String want) {
        if (method.equals("type") && args.startsWith("\"")) {
            typeText(args.substring(1, args.length() - 1));
        } else if (want != null && want.contains("/")) {
            String[] sides = want.split("/");
            String ahead = args.isEmpty() ? "" : args + ", ";
            call(method, ahead + "0", sides[0]);
            call(method, ahead + "1", sides[1]);
        } else {
            call(method, args, want);
        }
    }

    /** GRADES become this text. */
    private void typeText(String text) {
        call("wipe", "", null);
        for (int i = 0; i < text.length(); i++) {
            call("type", "" + (int) text.charAt(i), "" + (i + 1));
        }
    }

    private void call(String method, String args, String want) {
        if (answers.size() >= 512) {
            throw new IllegalArgumentException(name + ": an object has 512 calls");
        }
        String[] words = args.isEmpty() ? new String[0] : args.split("\\s*,\\s*");
        Method face = find(method, words.length);
        Object[] values = new Object[words.length];
        for (int i = 0; i < words.length; i++) {
            values[i] = argument(words[i]);
        }
        String got;
        try {
            got = "" + face.invoke(hands, values);
        } catch (ReflectiveOperationException e) {
            got = "" + e.getCause();
        }
        answers.add(got);
        check(want == null || got.equals(answer(want, face.getReturnType() == long.class)),
            name + ": " + method + "(" + args + ") answered " + got + ", due is " + want);
    }

    private static Method find(String name, int parameters) {
        for (Method m : MarkedHands.class.getMethods()) {
            if (m.getName().equals(name) && m.getParameterCount() == parameters
                    && m.getDeclaringClass() == MarkedHands.class) {
                return m;
            }
        }
        throw new IllegalArgumentException("no such call: " + name);
    }

    private static int argument(String word) {
        switch (word) {
            case "LEAST": return Integer.MIN_VALUE;
            case "GREATEST": return Integer.MAX_VALUE;
            default: return Integer.parseInt(word);
        }
    }

    private static String answer(String word, boolean isLong) {
        switch (word) {
            case "NONE": return "-1";
            case "BAD": return refusal(2, isLong);
            case "NOT": return refusal(3, isLong);
            case "FULL": return "-4";
            case "NULL": return "-11";
            case "INDEX": return "-12";
            case "CAST": return "-13";
            case "STORE": return "-14";
            case "SIZE": return "-15";
            case "LEAST": return "-2147483648";
            default: return word;
        }
    }

    private static String refusal(int x, boolean isLong) {
        return isLong ? "" + (Long.MIN_VALUE + x) : "-" + x;
    }
}
