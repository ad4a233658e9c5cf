import java.io.IOException;
import java.lang.management.ManagementFactory;
import java.lang.reflect.Field;
import java.lang.reflect.Method;
import java.lang.reflect.Modifier;
import java.nio.file.Files;
import java.nio.file.Path;
import java.util.ArrayList;
import java.util.Arrays;
import java.util.Comparator;
import java.util.List;
import java.util.Random;
import java.util.Set;
import java.util.TreeSet;
import java.util.regex.Matcher;
import java.util.regex.Pattern;

/** The face as the document tells it, and what of LANGUAGE.md can be seen from outside. */
public final class LanguageTest {
    private static final Path SOURCE = Path.of("src/main/java/MarkedHands.java");
    private static final Path DOCUMENT = Path.of("../shared/DOC.md");
    private static final Method[] FACE = Arrays.stream(MarkedHands.class.getDeclaredMethods())
        .filter(m -> Modifier.isPublic(m.getModifiers())).sorted(Comparator.comparing(Method::getName))
        .toArray(Method[]::new);
    private static int wrong = 0;

    public static void main(String[] args) throws IOException {
        String source = Files.readString(SOURCE);
        face(Files.readString(DOCUMENT));
        members();
        privateNames();
        words(source);
        loops(source);
        lengths(source);
        room();
        neverThrows();
        System.out.println(wrong == 0 ? "the class keeps to the language" : wrong + " rules are broken");
        if (wrong != 0) {
            System.exit(1);
        }
    }

    private static void check(boolean right, String what) {
        if (!right) {
            wrong++;
            System.out.println(what);
        }
    }

    private static List<Class<?>> classes() {
        List<Class<?>> all = new ArrayList<>(List.of(MarkedHands.class.getDeclaredClasses()));
        all.add(MarkedHands.class);
        return all;
    }

    /** Rule 1: every row of the document's face stands, and no other. */
    private static void face(String document) {
        Set<String> due = new TreeSet<>();
        Matcher row = Pattern.compile("public (int|long) (\\w+)\\(([^)]*)\\);").matcher(document);
        while (row.find()) {
            due.add(row.group(1) + " " + row.group(2) + "(" + row.group(3).replaceAll("(int|long) \\w+", "$1") + ")");
        }
        Set<String> got = new TreeSet<>();
        for (Method m : MarkedHands.class.getDeclaredMethods()) {
            if (Modifier.isPublic(m.getModifiers())) {
                String types = String.join(", ", Arrays.stream(m.getParameterTypes()).map(Class::getName).toList());
                got.add(m.getReturnType() + " " + m.getName() + "(" + types + ")");
            }
        }
        check(due.size() == 34 && due.equals(got), "rule 1: the face is " + got + ", due is " + due);
        check(Modifier.isFinal(MarkedHands.class.getModifiers()), "rule 1: the class is not final");
        check(MarkedHands.class.getConstructors().length == 1, "rule 1: one constructor is due");
    }

    private static void members() {
        for (Field f : MarkedHands.class.getDeclaredFields()) {
            boolean constant = List.of("NONE", "BAD", "NOT", "FULL").contains(f.getName());
            int mods = f.getModifiers();
            check(constant ? Modifier.isPublic(mods) : Modifier.isPrivate(mods), "rule 1: field " + f);
        }
        for (Method m : MarkedHands.class.getDeclaredMethods()) {
            check(Modifier.isPublic(m.getModifiers()) || Modifier.isPrivate(m.getModifiers()), "rule 1: method " + m);
        }
        check(classes().size() <= 12, "rule 11: too many classes");
        for (Class<?> c : classes()) {
            int fields = 0;
            for (Field f : c.getDeclaredFields()) {
                check(!Modifier.isStatic(f.getModifiers()) || Modifier.isFinal(f.getModifiers()), "rule 5: " + f);
                fields += Modifier.isStatic(f.getModifiers()) ? 0 : 1;
            }
            check(fields <= 20, "rule 11: too many fields in " + c);
            check(c == MarkedHands.class || Modifier.isStatic(c.getModifiers()), "rule 2: " + c + " is not static");
            for (Method m : c.getDeclaredMethods()) {
                check(m.getParameterCount() <= 7, "rule 11: too many parameters: " + m);
            }
        }
    }

    private static void privateNames() {
        Set<String> names = new TreeSet<>();
        for (Method m : MarkedHands.class.getMethods()) {
            names.add(m.getName());
        }
        for (Class<?> c : classes()) {
            for (Method m : c.getDeclaredMethods()) {
                boolean own = c == MarkedHands.class && Modifier.isPublic(m.getModifiers());
                check(own || !names.contains(m.getName()), "rule 1: a name of the face again: " + m);
            }
        }
    }

    private static void words(String source) {
        String[] not = {"throw", "try", "catch", "finally", "synchronized", "assert", "import", "package", "volatile",
            "native", "transient", "protected", "Object", "Thread", "equals", "hashCode", "toString", "record"};
        for (String word : not) {
            check(!Pattern.compile("\\b" + word + "\\b").matcher(source).find(), "rule 6: the word " + word);
        }
        check(!source.contains("->") && !source.contains("::"), "rule 2: a lambda or a method reference");
        check(!source.contains("Exact("), "rule 4: a function whose name ends in Exact");
        boolean plain = source.chars().allMatch(c -> c == '\n' || c >= 32 && c < 127);
        check(plain, "rule 4: a sign that is none of 32 to 126");
        Matcher library = Pattern.compile("\\b(Math|Integer|Long|System|Arrays)\\.(\\w+)").matcher(source);
        Set<String> fine = Set.of("Math.abs", "Math.min", "Math.max", "Integer.bitCount", "System.arraycopy");
        while (library.find()) {
            check(fine.contains(library.group()), "rule 4: " + library.group());
        }
    }

    /** Rule 9: loops count; none of them waits for something. */
    private static void loops(String source) {
        check(!Pattern.compile("\\b(while|do)\\b *[({]").matcher(source).find(), "rule 9: a loop without a counter");
        Matcher loop = Pattern.compile("for \\(([^;]*);([^;]*);([^{]*)\\) \\{").matcher(source);
        while (loop.find()) {
            check(loop.group(2).contains("<"), "rule 9: no bound in " + loop.group());
        }
    }

    private static void lengths(String source) {
        int start = 0;
        int at = 0;
        for (String line : source.split("\n")) {
            at++;
            check(line.length() <= 120, "a long line: " + at);
            if (line.matches(" {4,8}[a-z][^=;]*\\) \\{") && !line.contains("class ")) {
                start = at;
            }
            if (line.matches(" {4,8}}")) {
                check(at - start <= 60 || start == 0, "rule 11: a long method at line " + start);
                start = 0;
            }
        }
    }

    /** Rule 12: a new object is small, and its calls make nothing more. */
    private static void room() {
        MarkedHands warm = new MarkedHands();
        allCalls(warm);
        long ahead = allocated();
        MarkedHands hands = new MarkedHands();
        long made = allocated() - ahead;
        check(made < 16384, "rule 12: a new object takes " + made + " bytes");
        ahead = allocated();
        allCalls(hands);
        long more = allocated() - ahead;
        check(more < 2048, "rule 12: its calls take " + more + " bytes");
    }

    /** Rule 7: for any arguments in any state, also past the 512 calls that an object is made for. */
    private static void neverThrows() {
        int[] numbers = {Integer.MIN_VALUE, -1001, -49, -4, -3, -2, -1, 0, 1, 2, 3, 4, 5, 9, 11, 12, 13, 47, 48, 49, 61,
            100, 101, 255, 256, 999, 1000, 1001, Integer.MAX_VALUE - 1, Integer.MAX_VALUE};
        Random dice = new Random(7);
        for (int object = 0; object < 40; object++) {
            MarkedHands hands = new MarkedHands();
            int reach = object % 2 == 0 ? numbers.length : 5;
            for (int i = 0; i < 3000; i++) {
                oneCall(hands, FACE[dice.nextInt(FACE.length)], numbers, reach, dice);
            }
        }
    }

    private static void oneCall(MarkedHands hands, Method call, int[] numbers, int reach, Random dice) {
        Object[] args = new Object[call.getParameterCount()];
        for (int i = 0; i < args.length; i++) {
            args[i] = reach == numbers.length ? numbers[dice.nextInt(reach)] : dice.nextInt(reach) - 1;
        }
        try {
            call.invoke(hands, args);
        } catch (ReflectiveOperationException e) {
            check(false, "rule 7: " + call.getName() + Arrays.toString(args) + " threw " + e.getCause());
        }
    }

    private static long allocated() {
        com.sun.management.ThreadMXBean threads = (com.sun.management.ThreadMXBean) ManagementFactory.getThreadMXBean();
        return threads.getThreadAllocatedBytes(Thread.currentThread().getId());
    }

    private static long allCalls(MarkedHands x) {
        long sum = x.sheet(0, 0, 48) + x.sheet(1, 0, 9) + x.put(0, 0, 2, 50);
        sum += x.read(0, 1) + x.copy(0, 0, 1, 0, 9);
        for (int i = 0; i < 60; i++) {
            sum += x.mark(i * 5 % 12, i * 7 % 4, i, 2 + i);
            sum += x.type("A=50;B=40;C=30".charAt(i % 14));
        }
        for (int i = -1; i < 13; i++) {
            sum += x.bundle(0, i) + x.hard(i, 0) + x.worth(i, 1) + x.rank(i, 0) + x.grade(i) + x.hangs(i);
            sum += x.fit(i, 1, 0) + x.off(i, 0) + x.has(i, 2) + x.misses(0, i) + x.doubt(0, i, 0) + x.worst(i);
            sum += x.next(i) + x.bridge(i, 0) + x.price(i, 3) + x.tied(i) + x.drift(i, 0) + x.agree(0, i, 1);
            sum += x.without(i, 1, 0) + x.get(0, 0, i) + x.write(i, 1) + x.count(i) + x.asOf(i + 40);
        }
        return sum + x.fault() + x.wipe() + x.odd() + x.digest() + x.lose(0);
    }
}
