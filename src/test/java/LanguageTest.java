import java.io.IOException;
import java.lang.management.ManagementFactory;
import java.lang.reflect.Constructor;
import java.lang.reflect.Field;
import java.lang.reflect.Method;
import java.lang.reflect.Modifier;
import java.nio.file.Files;
import java.nio.file.Path;
import java.util.ArrayList;
import java.util.List;
import java.util.TreeSet;
import java.util.regex.Matcher;
import java.util.regex.Pattern;

/** The public face, the rules of LANGUAGE.md that can be seen from outside, and what a call makes and takes. */
public final class LanguageTest {
    private static final String[] FACE = {"at(int,int)int", "bearer(int,int,int,int)int", "book(int,int)int", "cloths(int)int",
        "dearest()int", "end(int)boolean", "far(int)int", "fault(int)int", "feed(int,int,int,int,int)int", "fits(int)int",
        "gates()int", "goes(int)int", "helps(int)int", "idle(int,int)int", "image(boolean)boolean", "line()int",
        "loads(int,int)int", "look(int)int", "of(int,int)int", "order(int)int", "paces(int)int", "place(int,int)boolean",
        "rests()int", "seen(int,int)boolean", "set(int,int,int)boolean", "state(int)int", "straps(int,int)int", "sways(int)int",
        "text(int)int", "undo()boolean", "unseen(int)int"};

    private LanguageTest() { }

    public static void main(String[] args) throws IOException {
        face();
        fields();
        source();
        wildCalls();
        callsMakeNothing();
        dearestCalls();
        Check.close();
    }

    private static void face() {
        TreeSet<String> found = new TreeSet<>();
        TreeSet<String> names = new TreeSet<>();
        for (Method m : SixCarry.class.getDeclaredMethods()) {
            if (Modifier.isPublic(m.getModifiers())) {
                StringBuilder text = new StringBuilder(m.getName()).append('(');
                for (int i = 0; i < m.getParameterCount(); i++) {
                    text.append(i == 0 ? "" : ",").append(m.getParameterTypes()[i].getName());
                }
                found.add(text.append(')').append(m.getReturnType().getName()).toString());
                names.add(m.getName());
            }
        }
        Check.yes("rule 1: the face is " + found, found.equals(new TreeSet<>(List.of(FACE))));
        Check.yes("rule 1: final", Modifier.isFinal(SixCarry.class.getModifiers()));
        for (Constructor<?> c : SixCarry.class.getDeclaredConstructors()) {
            Check.yes("rule 1: the constructor", Modifier.isPublic(c.getModifiers()) && c.getParameterCount() == 0);
        }
        List<Class<?>> classes = new ArrayList<>(List.of(SixCarry.class));
        classes.addAll(List.of(SixCarry.class.getDeclaredClasses()));
        Check.yes("rule 11: classes", classes.size() <= 12);
        for (Class<?> c : classes) {
            Check.yes("rule 2: static " + c, c == SixCarry.class || Modifier.isStatic(c.getModifiers()));
            for (Method m : c.getDeclaredMethods()) {
                boolean hidden = c != SixCarry.class || Modifier.isPrivate(m.getModifiers());
                boolean shown = c == SixCarry.class && Modifier.isPublic(m.getModifiers());
                Check.yes("rule 1: private or public " + m, hidden || shown);
                Check.no("rule 1: the name of a public one " + m, !shown && names.contains(m.getName()));
                Check.yes("rule 11: parameters of " + m, m.getParameterCount() <= 7);
            }
        }
    }

    private static void fields() {
        List<Class<?>> classes = new ArrayList<>(List.of(SixCarry.class));
        classes.addAll(List.of(SixCarry.class.getDeclaredClasses()));
        for (Class<?> c : classes) {
            int own = 0;
            for (Field f : c.getDeclaredFields()) {
                boolean isStatic = Modifier.isStatic(f.getModifiers());
                own += isStatic ? 0 : 1;
                Check.yes("rule 5: final " + f, !isStatic || Modifier.isFinal(f.getModifiers()));
                if (c == SixCarry.class) {
                    Check.yes("rule 1: private " + f, Modifier.isPrivate(f.getModifiers()) || f.getName().equals("NONE"));
                }
            }
            Check.yes("rule 11: fields of " + c + ": " + own, own <= 20);
        }
    }

    private static void source() throws IOException {
        String text = Files.readString(Path.of(System.getProperty("source", "src/main/java/SixCarry.java")));
        for (int i = 0; i < text.length(); i++) {
            if (text.charAt(i) > 126) {
                Check.yes("rule 4: sign " + (int) text.charAt(i), false);
            }
        }
        String code = text.replaceAll("(?s)/\\*.*?\\*/", "").replaceAll("//[^\n]*", "").replaceAll("\"[^\"\n]*\"", "\"\"");
        String[] refused = {"throw", "throws", "try", "catch", "finally", "synchronized", "assert", "Exception", "\\w*Exact", "Object",
            "HashMap", "Random", "Thread", "Optional", "hashCode", "toString", "MAX_VALUE", "MIN_VALUE", "instanceof", "goto", "protected", "static \\{", "->", "::"};
        for (String word : refused) {
            Pattern p = Character.isLetter(word.charAt(0)) ? Pattern.compile("\\b" + word + "(?!\\w)") : Pattern.compile(word);
            Check.no("rules 2, 4 and 6: " + word, p.matcher(code).find());
        }
        TreeSet<String> imports = new TreeSet<>();
        Matcher m = Pattern.compile("import ([\\w.]+);").matcher(code);
        while (m.find()) {
            imports.add(m.group(1));
        }
        Check.yes("rule 4: imports " + imports, imports.equals(new TreeSet<>(List.of("java.util.Arrays"))));
        Check.no("rule 9: a loop without an end", Pattern.compile("while \\(true\\)|for \\(;;").matcher(code).find());
        methodLengths(code);
    }

    private static void methodLengths(String code) {
        String[] lines = code.split("\n");
        for (int i = 0; i < lines.length; i++) {
            String indent = lines[i].replaceAll("\\S.*", "");
            boolean begins = lines[i].endsWith(") {") && (indent.length() == 4 || indent.length() == 8)
                && !lines[i].trim().matches("(if|for|while|switch|else).*");
            if (!begins) {
                continue;
            }
            int j = i;
            while (!lines[j].equals(indent + "}")) {
                j++;
            }
            Check.yes("rule 11: the length of " + lines[i].trim(), j - i <= 60);
        }
    }

    /** Rule 7: whatever is asked in whatever state, nothing is thrown. */
    private static void wildCalls() {
        int[] wild = {Integer.MIN_VALUE, -1000, -10, -9, -3, -2, -1, 0, 1, 2, 3, 4, 5, 6, 7, 8, 9, 10, 11, 13, 17, 18, 20, 60, 61, 150, 151,
            200, 400, 1000, 1001, Integer.MAX_VALUE};
        for (int round = 0; round < 12; round++) {
            SixCarry x = new SixCarry();
            x.set(1, 0, 2 + round % 3);
            x.set(0, 0, 90);
            for (int b = 0; b < round % 6; b++) {
                x.bearer(60 + b, 100, 0, 0);
                x.place(b, b);
            }
            if (round > 3) {
                Tape.text(x, 0, "bear over * over when over > 1; bear 1;");
                Tape.text(x, 2, "walk 3; gate 5; rest 3; walk 200 up 9 gravel;");
                x.paces(3);
            }
            for (int v : wild) {
                all(x, v, wild);
            }
        }
        Check.yes("rule 7: nothing was thrown", true);
    }

    private static void all(SixCarry x, int v, int[] wild) {
        for (int w : wild) {
            x.of(v, w);
            x.at(v, w);
            x.book(v, w);
            x.loads(v, w);
            x.idle(v, w);
            x.straps(v, w);
            x.seen(v, w);
            x.place(v, w);
            if (v != 1) {
                x.set(v, w, 3);
            }
            x.set(0, 0, 90);
        }
        x.state(v);
        x.bearer(v, 10, 1, 0);
        x.feed(v, v, v, v, v);
        x.end(v);
        x.text(v);
        x.fault(v);
        x.paces(v);
        x.order(v);
        x.dearest();
        x.cloths(v);
        x.far(v);
        x.line();
        x.gates();
        x.sways(v);
        x.goes(v);
        x.rests();
        x.fits(v);
        x.unseen(v);
        x.helps(v);
        x.undo();
        x.image(v % 2 == 0);
        x.look(v);
    }

    /** Rule 12: rows are made in the constructor alone. */
    private static void callsMakeNothing() {
        com.sun.management.ThreadMXBean bean = (com.sun.management.ThreadMXBean) ManagementFactory.getThreadMXBean();
        long id = Thread.currentThread().getId();
        SixCarry x = new SixCarry();
        ready(x);
        long before = bean.getThreadAllocatedBytes(id);
        new SixCarry();
        long made = bean.getThreadAllocatedBytes(id) - before;
        Check.yes("rule 12: bytes of a new object: " + made, made < 60000);
        before = bean.getThreadAllocatedBytes(id);
        for (int i = 0; i < 20; i++) {
            thinkAll(x);
        }
        made = bean.getThreadAllocatedBytes(id) - before;
        Check.yes("rule 12: bytes that calls made: " + made, made < 4096);
    }

    private static void ready(SixCarry x) {
        x.set(1, 0, 2);
        x.set(0, 0, 90);
        for (int b = 0; b < 5; b++) {
            x.bearer(60 + b, 100, 0, 0);
            x.place(b, b);
        }
        Tape.text(x, 0, "bear over + 1 when not (over > 1 or tall < 3); bear 1;");
        Tape.text(x, 2, "walk 3; gate 5; rest 3; walk 200 up 9 gravel;");
        thinkAll(x);
    }

    private static void thinkAll(SixCarry x) {
        x.feed(0x62656172, 0x20313b20, 0x20202020, 0x20202020, 0x20202020);
        x.text(0);
        x.paces(2);
        x.order(0);
        x.dearest();
        x.cloths(0);
        x.far(2);
        x.line();
        x.gates();
        x.sways(-1);
        x.goes(2);
        x.rests();
        x.straps(60, 1);
        x.fits(0);
        x.unseen(0);
        x.helps(0);
        x.undo();
        x.image(true);
        x.image(false);
    }

    /** The dearest calls with all eight and a long law end soon. */
    private static void dearestCalls() {
        SixCarry x = new SixCarry();
        x.set(1, 0, 4);
        x.set(0, 0, 800);
        for (int b = 0; b < 8; b++) {
            x.bearer(60 + b, 300, b % 2, 0);
            x.place(b, b);
        }
        String law = "bear 1 when over > 99 and (tall > 99 or not tired < 1001 or strength * 3 + over > 9999);".repeat(4);
        Check.same("8: a long law", Tape.text(x, 0, law + "bear over + 5;"), 5);
        Tape.text(x, 1, "tire sway - sway when bears > 999 or can > 999 or tall > 99; tire 1;");
        Tape.text(x, 2, "walk 200 up 9;".repeat(20));
        x.set(3, 0, 200);
        long start = System.nanoTime();
        x.order(0);
        x.set(7, 0, 1);
        x.dearest();
        x.cloths(0);
        x.fits(0);
        x.line();
        x.goes(2);
        x.rests();
        x.far(0);
        long millis = (System.nanoTime() - start) / 1000000;
        System.out.println("the dearest calls took " + millis + " ms");
        Check.yes("they end soon", millis < 20000);
    }
}
