import java.io.IOException;
import java.lang.reflect.InvocationTargetException;
import java.lang.reflect.Method;
import java.lang.reflect.Modifier;
import java.nio.file.Files;
import java.nio.file.Path;
import java.util.ArrayList;
import java.util.Arrays;
import java.util.Comparator;
import java.util.List;
import java.util.Map;
import java.util.TreeMap;
import java.util.function.IntSupplier;

/** Runs the tests of a class, each of which has its Words, and helps them. */
final class Edges {
    private Edges() { }

    static void run(Class<?> tests) {
        Map<String, String> document = document();
        for (Method test : testsOf(tests)) {
            Words words = test.getAnnotation(Words.class);
            String part = document.getOrDefault(words.at(), "");
            Check.yes(words.at() + " says: " + words.value(), part.contains(words.value()));
            if (!holds(test)) {
                System.out.println("  so " + tests.getName() + "." + test.getName() + " does not hold: " + words.at() + ": " + words.value());
            }
        }
        Check.close();
    }

    static List<Method> testsOf(Class<?> tests) {
        List<Method> found = new ArrayList<>();
        for (Method m : tests.getDeclaredMethods()) {
            boolean isTest = Modifier.isStatic(m.getModifiers()) && m.getParameterCount() == 0 && m.getReturnType() == void.class;
            if (isTest && m.getAnnotation(Words.class) == null) {
                throw new IllegalStateException(m + " has no Words");
            }
            if (isTest) {
                m.setAccessible(true);
                found.add(m);
            }
        }
        found.sort(Comparator.comparing(Method::getName));
        return found;
    }

    /** A test that asks nothing does not hold either. */
    static boolean holds(Method test) {
        int right = Check.right();
        int wrong = Check.wrong();
        try {
            test.invoke(null);
        } catch (InvocationTargetException e) {
            Check.same(test.getName() + " threw " + e.getCause() + ":", 1, 0);
        } catch (IllegalAccessException e) {
            throw new IllegalStateException(e);
        }
        return Check.right() > right && Check.wrong() == wrong;
    }

    /** The document by its parts, with one blank wherever there are several or a new line. */
    private static Map<String, String> document() {
        Map<String, StringBuilder> parts = new TreeMap<>();
        String part = "";
        for (String line : lines(Path.of(System.getProperty("doc", "../shared/DOC.md")))) {
            if (line.startsWith("## ")) {
                part = line.substring(3).replaceAll(":.*", "");
            } else if (line.startsWith("==== ")) {
                part = "Terms " + line.charAt(5);
            }
            parts.computeIfAbsent(part, key -> new StringBuilder()).append(line).append(' ');
        }
        Map<String, String> document = new TreeMap<>();
        parts.forEach((name, text) -> document.put(name, text.toString().replaceAll("\\s+", " ")));
        return document;
    }

    private static List<String> lines(Path file) {
        try {
            return Files.readAllLines(file);
        } catch (IOException e) {
            throw new IllegalStateException(e);
        }
    }

    /** Two or more pairs on shoulders: one bearer for each height and strength, the first ones at the places, none stepping wrongly. */
    static SixCarry crew(int pairs, int pounds, int[] tall, int[] strength) {
        SixCarry x = new SixCarry();
        x.set(1, 0, pairs);
        x.set(0, 0, pounds);
        for (int b = 0; b < tall.length; b++) {
            x.bearer(tall[b], strength[b], 1 - b % 2, 0);
            if (b < 2 * pairs) {
                x.place(b, b);
            }
        }
        return x;
    }

    /** As many of one height as there are places, each of STRENGTH 300, by hand. */
    static SixCarry even(int pairs, int pounds) {
        SixCarry x = crew(pairs, pounds, all(2 * pairs, 60), all(2 * pairs, 300));
        x.set(2, 0, 1);
        return x;
    }

    static int[] all(int many, int v) {
        int[] row = new int[many];
        Arrays.fill(row, v);
        return row;
    }

    static int[] row(int... row) {
        return row;
    }

    /** Every PLACE in turn, on a slope. */
    static void borne(String what, SixCarry x, int slope, int... due) {
        for (int p = 0; p < due.length; p++) {
            Check.same(what + ": pounds at " + p, x.loads(p, slope), due[p]);
        }
    }

    static void tell(SixCarry x, int k, String text) {
        Check.yes("taken: " + text, Tape.text(x, k, text) >= 0);
    }

    /** What STATE a DRAW leads to, without an int on the way. */
    static long drawn(long v) {
        long wide = Math.floorMod(1664525L * v + 1013904223L, 1L << 32);
        return wide >= 1L << 31 ? wide - (1L << 32) : wide;
    }

    /** From which STATE a DRAW leads to this one. */
    static int ahead(int state) {
        int inverse = 1664525;
        for (int i = 0; i < 5; i++) {
            inverse *= 2 - 1664525 * inverse;
        }
        return (state - 1013904223) * inverse;
    }

    /** A call that is refused changes nothing that can be seen. */
    static void refused(SixCarry x, String call, int due, IntSupplier answer) {
        String was = look(x);
        Check.same(call, answer.getAsInt(), due);
        Check.yes(call + " changed nothing", was.equals(look(x)));
    }

    /** All that can be looked at. */
    static String look(SixCarry x) {
        StringBuilder all = new StringBuilder();
        for (int what = 0; what < 24; what++) {
            all.append(x.look(what)).append(' ');
        }
        for (int i = 0; i < 8; i++) {
            for (int what = 0; what < 7; what++) {
                all.append(x.of(i, what)).append(' ').append(x.at(i, what)).append(' ');
            }
        }
        for (int i = 0; i < x.look(6); i++) {
            for (int what = 0; what < 4; what++) {
                all.append(x.book(i, what)).append(' ');
            }
        }
        return all.toString();
    }
}
