import java.io.File;
import java.io.IOException;
import java.io.OutputStream;
import java.io.PrintStream;
import java.lang.reflect.Method;
import java.net.URL;
import java.net.URLClassLoader;
import java.nio.file.Files;
import java.nio.file.Path;
import java.util.ArrayList;
import java.util.List;
import java.util.Set;
import java.util.TreeSet;
import java.util.regex.Matcher;
import java.util.regex.Pattern;
import javax.tools.JavaCompiler;
import javax.tools.ToolProvider;

/**
 * Shows that each edge test bites: puts the faults of mutants.txt into the class, one at a time, and asks the test that
 * is named with it. A fault that its test does not find, and a test without a fault, are printed.
 */
public final class Mutants {
    private static final String[] TESTS = {"EdgeLoadTest", "EdgeTextTest", "EdgeBearingTest", "EdgePaceTest", "EdgeThoughtTest"};
    private static final long LONGEST_MILLIS = 60000;
    private final String source;
    private final Path work;
    private final List<String> complaints = new ArrayList<>();
    private final Set<String> bitten = new TreeSet<>();
    private int found = 0;

    private Mutants(String source, Path work) {
        this.source = source;
        this.work = work;
    }

    public static void main(String[] args) throws Exception {
        Path main = Path.of(System.getProperty("source", "src/main/java/SixCarry.java"));
        Path list = Path.of(System.getProperty("mutants", "src/test/mutants.txt"));
        Mutants mutants = new Mutants(Files.readString(main), Files.createTempDirectory("mutants"));
        mutants.all(Files.readAllLines(list), args.length > 0 ? args[0] : "");
        if (args.length == 0) {
            mutants.testsWithoutOne();
        }
        mutants.complaints.forEach(System.out::println);
        System.out.println(mutants.found + " faults found, " + mutants.complaints.size() + " complaints");
        System.exit(mutants.complaints.isEmpty() ? 0 : 1);
    }

    private void all(List<String> lines, String only) throws Exception {
        String test = "";
        String from = "";
        for (String line : lines) {
            if (line.startsWith("- ")) {
                from = line.substring(2);
            } else if (line.startsWith("+")) {
                if (test.contains(only)) {
                    one(test, from, line.substring(1));
                }
            } else if (!line.isBlank() && !line.startsWith("#")) {
                test = line.trim();
            }
        }
    }

    /** Blanks in the text that is replaced stand for any blanks and ends of lines in the source. */
    private void one(String test, String from, String to) throws Exception {
        StringBuilder pattern = new StringBuilder();
        for (String part : from.trim().split("\\s+")) {
            pattern.append(pattern.length() == 0 ? "" : "\\s+").append(Pattern.quote(part));
        }
        Matcher m = Pattern.compile(pattern.toString()).matcher(source);
        if (!m.find()) {
            complaints.add(test + ": the source has no " + from);
            return;
        }
        String mutant = source.substring(0, m.start()) + to + source.substring(m.end());
        if (m.find()) {
            complaints.add(test + ": the source has more than one " + from);
            return;
        }
        Path dir = Files.createTempDirectory(work, "one");
        if (!compiles(mutant, dir)) {
            complaints.add(test + ": it does not compile with " + to);
        } else if (holds(test, dir)) {
            complaints.add(test + " holds with " + from + " -> " + to);
        } else {
            found++;
            bitten.add(test);
        }
    }

    private static boolean compiles(String mutant, Path dir) throws IOException {
        Path file = dir.resolve("SixCarry.java");
        Files.writeString(file, mutant);
        JavaCompiler compiler = ToolProvider.getSystemJavaCompiler();
        return compiler.run(null, OutputStream.nullOutputStream(), OutputStream.nullOutputStream(), "-d", dir.toString(), file.toString()) == 0;
    }

    private static boolean holds(String test, Path dir) throws Exception {
        URL own = new File(Mutants.class.getProtectionDomain().getCodeSource().getLocation().toURI()).toURI().toURL();
        URLClassLoader loader = new URLClassLoader(new URL[] {dir.toUri().toURL(), own}, ClassLoader.getPlatformClassLoader());
        Method method = loader.loadClass(test.substring(0, test.indexOf('.'))).getDeclaredMethod(test.substring(test.indexOf('.') + 1));
        method.setAccessible(true);
        Method holds = loader.loadClass("Edges").getDeclaredMethod("holds", Method.class);
        holds.setAccessible(true);
        boolean[] answer = {false};
        Thread thread = new Thread(() -> {
            try {
                answer[0] = (Boolean) holds.invoke(null, method);
            } catch (ReflectiveOperationException e) {
                throw new IllegalStateException(e);
            }
        });
        PrintStream out = System.out;
        System.setOut(new PrintStream(OutputStream.nullOutputStream()));
        thread.setDaemon(true);
        thread.start();
        thread.join(LONGEST_MILLIS);
        System.setOut(out);
        return answer[0];
    }

    private void testsWithoutOne() throws ClassNotFoundException {
        for (String name : TESTS) {
            for (Method test : Edges.testsOf(Class.forName(name))) {
                if (!bitten.contains(name + "." + test.getName())) {
                    complaints.add(name + "." + test.getName() + " has found no fault");
                }
            }
        }
    }
}
