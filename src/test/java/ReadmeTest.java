import java.io.IOException;
import java.lang.reflect.InvocationTargetException;
import java.lang.reflect.Method;
import java.lang.reflect.Modifier;
import java.nio.file.Files;
import java.nio.file.Path;
import java.util.HashMap;
import java.util.Map;
import java.util.TreeSet;
import java.util.regex.Matcher;
import java.util.regex.Pattern;

/** Calls what README.md shows, line by line, and holds each answer to what stands behind it. */
public final class ReadmeTest {
    private static final Pattern NEW = Pattern.compile("SixCarry x = new SixCarry\\(\\);");
    private static final Pattern CALL = Pattern.compile("x\\.(\\w+)\\(([^()\"]*)\\);\\s+// ([^:]+)(:.*)?");
    private static final Pattern TEXT = Pattern.compile("Tape\\.text\\(x, (\\d), \"([^\"]*)\"\\);\\s+// ([^:]+)(:.*)?");

    private ReadmeTest() { }

    public static void main(String[] args) throws IOException {
        Path readme = Path.of(System.getProperty("readme", "README.md"));
        Map<String, Method> face = face();
        TreeSet<String> unseen = new TreeSet<>(face.keySet());
        SixCarry x = null;
        boolean shown = false;
        for (String line : Files.readAllLines(readme)) {
            if (line.startsWith("```")) {
                shown = line.equals("```java");
            } else if (shown && NEW.matcher(line).matches()) {
                x = new SixCarry();
            } else if (shown && !line.isBlank()) {
                unseen.remove(called(x, line, face));
            }
        }
        Check.yes("every call is shown but " + unseen, unseen.isEmpty());
        Check.close();
    }

    private static Map<String, Method> face() {
        Map<String, Method> face = new HashMap<>();
        for (Method m : SixCarry.class.getDeclaredMethods()) {
            if (Modifier.isPublic(m.getModifiers())) {
                face.put(m.getName(), m);
            }
        }
        return face;
    }

    private static String called(SixCarry x, String line, Map<String, Method> face) {
        Matcher call = CALL.matcher(line);
        Matcher text = TEXT.matcher(line);
        if (x != null && text.matches()) {
            Check.same(line, Tape.text(x, Integer.parseInt(text.group(1)), text.group(2)), number(text.group(3)));
            return "text";
        }
        if (x == null || !call.matches() || !face.containsKey(call.group(1))) {
            Check.yes("a call and its answer: " + line, false);
            return "";
        }
        Method m = face.get(call.group(1));
        Object answer = answer(x, m, call.group(2));
        if (m.getReturnType() == boolean.class) {
            Check.yes(line + " (" + answer + ")", String.valueOf(answer).equals(call.group(3)));
        } else {
            Check.same(line, (Integer) answer, number(call.group(3)));
        }
        return m.getName();
    }

    private static Object answer(SixCarry x, Method m, String told) {
        String[] parts = told.isBlank() ? new String[0] : told.split(", ");
        Object[] arguments = new Object[parts.length];
        for (int i = 0; i < parts.length; i++) {
            if (m.getParameterTypes()[i] == boolean.class) {
                arguments[i] = Boolean.valueOf(parts[i]);
            } else {
                arguments[i] = number(parts[i]);
            }
        }
        try {
            return m.invoke(x, arguments);
        } catch (InvocationTargetException | IllegalAccessException e) {
            throw new IllegalStateException(m + " of " + told, e);
        }
    }

    private static int number(String told) {
        return told.endsWith("NONE") ? SixCarry.NONE : Integer.decode(told);
    }
}
