import java.util.ArrayList;
import java.util.HashMap;
import java.util.List;
import java.util.Map;
import java.util.function.Predicate;
import java.util.function.ToIntFunction;

/** The document written a second time, as plainly as the Java library lets it: nothing is kept, all is copied. */
final class PlainModel {
    static final int NONE = -1;

    /** A FAULT in a text. */
    private static final class Fault extends Exception {
        private static final long serialVersionUID = 1L;
        final int kind;
        final int place;

        Fault(int kind, int place) {
            this.kind = kind;
            this.place = place;
        }
    }

    private record Token(String text, int place) { }

    private record LawLine(ToIntFunction<Map<String, Integer>> e, Predicate<Map<String, Integer>> b) { }

    private record WayLine(String kind, int first, int second, boolean gravel) { }

    private record BookLine(int pace, int what, int third, int bearer) { }

    private static final class Bearer {
        int tall;
        int strength;
        int foot;
        int knee;
        int tired;

        Bearer copy() {
            Bearer b = new Bearer();
            b.tall = tall;
            b.strength = strength;
            b.foot = foot;
            b.knee = knee;
            b.tired = tired;
            return b;
        }

        int can() {
            return Math.floorDiv(strength * (1000 - tired), 1000);
        }
    }

    private static final class Place {
        int who = NONE;
        int cloth = 0;
        int kept = 0;
        int speed = 1;
        int seen = NONE;

        Place copy() {
            Place p = new Place();
            p.who = who;
            p.cloth = cloth;
            p.kept = kept;
            p.speed = speed;
            p.seen = seen;
            return p;
        }
    }

    /** All that THE IMAGE holds. */
    private static final class All {
        int[] load = {400, 3, 0, 50, 100, 0};
        int state = 0;
        int pace = 0;
        int falls = 0;
        int sway = 0;
        List<Place> places = new ArrayList<>();
        List<Bearer> bearers = new ArrayList<>();
        List<LawLine> bearing = new ArrayList<>();
        List<LawLine> tiring = new ArrayList<>();
        List<WayLine> way = new ArrayList<>();
        /** Of the first line of the way that is left. */
        int done = 0;
        List<BookLine> book = new ArrayList<>();

        All copy() {
            All a = new All();
            a.load = load.clone();
            a.state = state;
            a.pace = pace;
            a.falls = falls;
            a.sway = sway;
            for (Place p : places) {
                a.places.add(p.copy());
            }
            for (Bearer b : bearers) {
                a.bearers.add(b.copy());
            }
            a.bearing = bearing;
            a.tiring = tiring;
            a.way = new ArrayList<>(way);
            a.done = done;
            a.book = new ArrayList<>(book);
            return a;
        }
    }

    private All now = new All();
    private All image = null;
    private final List<All> past = new ArrayList<>();
    private final StringBuilder tape = new StringBuilder();
    private int fault = 0;
    private int faultAt = NONE;

    PlainModel() {
        makePlaces(now);
    }

    private static void makePlaces(All a) {
        a.places.clear();
        for (int i = 0; i < 2 * a.load[1]; i++) {
            a.places.add(new Place());
        }
    }

    int state(int v) {
        int was = now.state;
        now.state = v;
        past.clear();
        return was;
    }

    int bearer(int tall, int strength, int foot, int knee) {
        if (tall < 40 || tall > 80 || strength < 0 || strength > 300 || foot < 0 || foot > 1 || knee < 0 || knee > 1
            || now.bearers.size() == 8) {
            return NONE;
        }
        Bearer b = new Bearer();
        b.tall = tall;
        b.strength = strength;
        b.foot = foot;
        b.knee = knee;
        now.bearers.add(b);
        past.clear();
        return now.bearers.size() - 1;
    }

    boolean set(int what, int who, int v) {
        int[] least = {1, 2, 0, 0, 0, 0, 0, 0, 1, 0, 0};
        int[] most = {999, 4, 1, 200, 1000, 1000, 6, 1, 9, 300, 1000};
        if (what < 0 || what > 10 || v < least[what] || v > most[what]) {
            return false;
        }
        if (what >= 6 && (who < 0 || who >= (what < 9 ? now.places.size() : now.bearers.size()))) {
            return false;
        }
        if (what < 6) {
            now.load[what] = v;
            if (what == 1) {
                makePlaces(now);
            }
        } else if (what == 6) {
            now.places.get(who).cloth = v;
        } else if (what == 7) {
            now.places.get(who).kept = v;
        } else if (what == 8) {
            now.places.get(who).speed = v;
        } else if (what == 9) {
            now.bearers.get(who).strength = v;
        } else {
            now.bearers.get(who).tired = v;
        }
        past.clear();
        return true;
    }

    boolean place(int place, int bearer) {
        if (place < 0 || place >= now.places.size() || bearer < NONE || bearer >= now.bearers.size()) {
            return false;
        }
        change(now, place, bearer);
        past.clear();
        return true;
    }

    private static void change(All a, int place, int bearer) {
        for (Place p : a.places) {
            if (bearer != NONE && p.who == bearer) {
                p.who = NONE;
            }
        }
        a.places.get(place).who = bearer;
    }

    int feed(int... numbers) {
        if (tape.length() > 380) {
            return NONE;
        }
        for (int n : numbers) {
            tape.append((char) (n >>> 24)).append((char) (n >>> 16 & 255)).append((char) (n >>> 8 & 255)).append((char) (n & 255));
        }
        return tape.length();
    }

    boolean end(int n) {
        if (n < 0 || n > tape.length()) {
            return false;
        }
        tape.setLength(n);
        return true;
    }

    int text(int k) {
        String text = tape.toString();
        tape.setLength(0);
        fault = 0;
        faultAt = NONE;
        if (k < 0 || k > 2) {
            return NONE;
        }
        try {
            Parser parser = new Parser(text);
            if (k == 2) {
                List<WayLine> way = parser.way(now.places.size(), now.bearers.size());
                now.way = way;
                now.done = 0;
                past.clear();
                return way.size();
            }
            List<LawLine> law = parser.law(k == 0 ? "bear" : "tire");
            if (k == 0) {
                now.bearing = law;
            } else {
                now.tiring = law;
            }
            for (All a : past) {
                a.bearing = now.bearing;
                a.tiring = now.tiring;
            }
            return law.size();
        } catch (Fault f) {
            fault = f.kind;
            faultAt = f.place;
            return NONE;
        }
    }

    int fault(int what) {
        return what == 0 ? fault : what == 1 ? faultAt : NONE;
    }

    private static final class Parser {
        private final List<Token> tokens = new ArrayList<>();
        private int at = 0;
        private int open = 0;
        private String kind = "";

        Parser(String text) {
            java.util.regex.Matcher m = java.util.regex.Pattern.compile("[A-Za-z]+|[0-9]+|[^ \n]", java.util.regex.Pattern.DOTALL)
                .matcher(text);
            while (m.find()) {
                tokens.add(new Token(m.group(), m.start()));
            }
            tokens.add(new Token("", text.length()));
        }

        private String peek() {
            return tokens.get(at).text();
        }

        private Fault wrong(int what) {
            return new Fault(what, tokens.get(at).place());
        }

        private void need(String text) throws Fault {
            if (!peek().equals(text)) {
                throw wrong(1);
            }
            at++;
        }

        private boolean take(String text) {
            if (peek().equals(text)) {
                at++;
                return true;
            }
            return false;
        }

        private int number(int least, int most) throws Fault {
            if (!peek().matches("[0-9]{1,4}")) {
                throw wrong(1);
            }
            int n = Integer.parseInt(peek());
            if (n < least || n > most) {
                throw wrong(2);
            }
            at++;
            return n;
        }

        List<LawLine> law(String keyword) throws Fault {
            kind = keyword;
            List<LawLine> lines = new ArrayList<>();
            while (!peek().isEmpty()) {
                if (peek().equals(keyword) && lines.size() == 16) {
                    throw wrong(3);
                }
                need(keyword);
                ToIntFunction<Map<String, Integer>> e = e();
                Predicate<Map<String, Integer>> b = f -> true;
                if (take("when")) {
                    b = b();
                }
                need(";");
                lines.add(new LawLine(e, b));
            }
            return lines;
        }

        private Predicate<Map<String, Integer>> b() throws Fault {
            Predicate<Map<String, Integer>> left = a();
            while (take("or")) {
                left = left.or(a());
            }
            return left;
        }

        private Predicate<Map<String, Integer>> a() throws Fault {
            Predicate<Map<String, Integer>> left = c();
            while (take("and")) {
                left = left.and(c());
            }
            return left;
        }

        private Predicate<Map<String, Integer>> c() throws Fault {
            if (peek().equals("not") || peek().equals("(")) {
                if (open == 8) {
                    throw wrong(3);
                }
                open++;
                Predicate<Map<String, Integer>> inner;
                if (take("not")) {
                    inner = c().negate();
                } else {
                    need("(");
                    inner = b();
                    need(")");
                }
                open--;
                return inner;
            }
            ToIntFunction<Map<String, Integer>> left = e();
            if (take("<")) {
                ToIntFunction<Map<String, Integer>> right = e();
                return f -> left.applyAsInt(f) < right.applyAsInt(f);
            }
            if (take(">")) {
                ToIntFunction<Map<String, Integer>> right = e();
                return f -> left.applyAsInt(f) > right.applyAsInt(f);
            }
            need("=");
            ToIntFunction<Map<String, Integer>> right = e();
            return f -> left.applyAsInt(f) == right.applyAsInt(f);
        }

        private ToIntFunction<Map<String, Integer>> e() throws Fault {
            ToIntFunction<Map<String, Integer>> sum = t();
            while (peek().equals("+") || peek().equals("-")) {
                ToIntFunction<Map<String, Integer>> left = sum;
                int sign = take("+") ? 1 : -1;
                if (sign < 0) {
                    at++;
                }
                ToIntFunction<Map<String, Integer>> right = t();
                sum = f -> left.applyAsInt(f) + sign * right.applyAsInt(f);
            }
            return sum;
        }

        private ToIntFunction<Map<String, Integer>> t() throws Fault {
            ToIntFunction<Map<String, Integer>> product = u();
            while (peek().equals("*") || peek().equals("/")) {
                ToIntFunction<Map<String, Integer>> left = product;
                if (take("*")) {
                    ToIntFunction<Map<String, Integer>> right = u();
                    product = f -> left.applyAsInt(f) * right.applyAsInt(f);
                } else {
                    at++;
                    int by = number(1, 9999);
                    product = f -> left.applyAsInt(f) / by;
                }
            }
            return product;
        }

        private ToIntFunction<Map<String, Integer>> u() throws Fault {
            String word = peek();
            List<String> words = new ArrayList<>(List.of("tall", "strength", "knee", "tired", "cloth", "pair", "right", "up", "down",
                "hands"));
            words.addAll(kind.equals("bear") ? List.of("over") : List.of("bears", "can", "gravel", "sway"));
            if (words.contains(word)) {
                at++;
                return f -> f.get(word);
            }
            int n = number(0, 9999);
            return f -> n;
        }

        List<WayLine> way(int places, int bearers) throws Fault {
            List<WayLine> lines = new ArrayList<>();
            while (!peek().isEmpty()) {
                String keyword = peek();
                if (!List.of("walk", "gate", "rest", "change", "cloth").contains(keyword)) {
                    throw wrong(1);
                }
                if (lines.size() == 40) {
                    throw wrong(3);
                }
                at++;
                int first = 0;
                int second = 0;
                boolean gravel = false;
                if (keyword.equals("walk")) {
                    first = number(1, 200);
                    if (take("up")) {
                        second = number(1, 9);
                    } else if (take("down")) {
                        second = -number(1, 9);
                    }
                    gravel = take("gravel");
                } else if (keyword.equals("gate")) {
                    first = number(1, 200);
                } else if (keyword.equals("rest")) {
                    first = number(1, 99);
                } else if (keyword.equals("change")) {
                    first = number(0, places - 1);
                    need("to");
                    second = number(0, bearers - 1);
                } else {
                    first = number(0, places - 1);
                    need("in");
                    second = number(0, 6);
                }
                need(";");
                lines.add(new WayLine(keyword, first, second, gravel));
            }
            return lines;
        }
    }

    private static int top(All a, int p, int slope) {
        Place place = a.places.get(p);
        int behind = a.load[1] - 1 - p / 2;
        return a.bearers.get(place.who).tall + place.cloth + slope * behind;
    }

    private static Map<String, Integer> facts(All a, int p, int slope) {
        Place place = a.places.get(p);
        Bearer b = a.bearers.get(place.who);
        Map<String, Integer> f = new HashMap<>();
        f.put("tall", b.tall);
        f.put("strength", b.strength);
        f.put("knee", b.knee);
        f.put("tired", b.tired);
        f.put("cloth", place.cloth);
        f.put("pair", p / 2);
        f.put("right", p % 2);
        f.put("up", slope > 0 ? slope : 0);
        f.put("down", slope < 0 ? -slope : 0);
        f.put("hands", a.load[2]);
        return f;
    }

    private static int byLaw(List<LawLine> law, Map<String, Integer> facts, int otherwise, int most) {
        int e = otherwise;
        for (LawLine line : law) {
            if (line.b().test(facts)) {
                e = line.e().applyAsInt(facts);
                break;
            }
        }
        return e < 0 ? 0 : e > most ? most : e;
    }

    private static List<Integer> holders(All a, List<Integer> letGo) {
        List<Integer> hold = new ArrayList<>();
        for (int p = 0; p < a.places.size(); p++) {
            if (a.places.get(p).who != NONE && !letGo.contains(p)) {
                hold.add(p);
            }
        }
        return hold;
    }

    /** By the PLACE what is borne of those who HOLD; null if it FALLS. The last list tells who would bear too much at first. */
    private static Map<Integer, Integer> bears(All a, int slope, List<Integer> letGo, List<Integer> tooMuchAtFirst) {
        List<Integer> hold = holders(a, letGo);
        if (hold.isEmpty()) {
            return null;
        }
        int least = hold.stream().mapToInt(p -> top(a, p, slope)).min().getAsInt();
        Map<Integer, Integer> share = new HashMap<>();
        for (int p : hold) {
            Map<String, Integer> f = facts(a, p, slope);
            int over = top(a, p, slope) - least;
            f.put("over", over);
            share.put(p, byLaw(a.bearing, f, a.load[2] == 1 ? 1 : over, 999));
        }
        if (share.values().stream().allMatch(s -> s == 0)) {
            share.replaceAll((p, s) -> 1);
        }
        Map<Integer, Integer> borne = new HashMap<>();
        for (int p : hold) {
            borne.put(p, 0);
        }
        List<Integer> among = new ArrayList<>(hold);
        among.removeIf(p -> share.get(p) == 0);
        int left = a.load[0];
        boolean first = true;
        while (!among.isEmpty()) {
            int all = among.stream().mapToInt(share::get).sum();
            List<Integer> too = new ArrayList<>();
            Map<Integer, Integer> would = new HashMap<>();
            for (int p : among) {
                would.put(p, Math.floorDiv(left * share.get(p), all));
                if (would.get(p) > a.bearers.get(a.places.get(p).who).can()) {
                    too.add(p);
                }
            }
            if (first) {
                tooMuchAtFirst.addAll(too);
                first = false;
            }
            if (too.isEmpty()) {
                int rest = left - would.values().stream().mapToInt(w -> w).sum();
                for (int p : among) {
                    borne.put(p, would.get(p) + (rest > 0 ? 1 : 0));
                    rest--;
                }
                return borne;
            }
            for (int p : too) {
                int can = a.bearers.get(a.places.get(p).who).can();
                borne.put(p, can);
                left -= can;
            }
            among.removeAll(too);
        }
        return null;
    }

    private static Map<Integer, Integer> bears(All a, int slope, List<Integer> letGo) {
        return bears(a, slope, letGo, new ArrayList<>());
    }

    private static int draw(All a, int m) {
        a.state = 1664525 * a.state + 1013904223;
        return (int) ((a.state & 0xffffffffL) / 256 % m);
    }

    private static void write(All a, int what, int third, int bearer) {
        if (a.book.size() < 150) {
            a.book.add(new BookLine(a.pace, what, third, bearer));
        }
    }

    private static void ease(All a, int minutes) {
        for (Bearer b : a.bearers) {
            b.tired = Math.max(0, b.tired - minutes * a.load[4]);
        }
    }

    private static boolean isPace(WayLine line) {
        return line.kind().equals("walk") || line.kind().equals("gate");
    }

    private static boolean hasPace(All a) {
        return a.way.stream().anyMatch(PlainModel::isPace);
    }

    private static void lines(All a) {
        while (!a.way.isEmpty() && !isPace(a.way.get(0))) {
            WayLine line = a.way.remove(0);
            if (line.kind().equals("rest")) {
                ease(a, line.first());
                write(a, 3, line.first(), NONE);
            } else if (line.first() < a.places.size()) {
                if (line.kind().equals("cloth")) {
                    a.places.get(line.first()).cloth = line.second();
                } else {
                    change(a, line.first(), line.second());
                    write(a, 2, line.first(), line.second());
                }
            }
        }
    }

    private static List<Integer> gatePlaces(All a) {
        List<Integer> letGo = new ArrayList<>();
        WayLine line = a.way.get(0);
        if (line.kind().equals("gate")) {
            int pair = Math.floorDiv(a.done * a.load[1], line.first());
            letGo.add(2 * pair);
            letGo.add(2 * pair + 1);
        }
        return letGo;
    }

    /** False if it FALLS; else all are tired and it sways. */
    private static boolean carry(All a, int slope, boolean gravel, List<Integer> letGo) {
        Map<Integer, Integer> borne = bears(a, slope, letGo);
        if (borne == null) {
            return false;
        }
        Map<Bearer, Integer> more = new HashMap<>();
        int wrong = 0;
        for (int p : holders(a, letGo)) {
            Bearer b = a.bearers.get(a.places.get(p).who);
            Map<String, Integer> f = facts(a, p, slope);
            f.put("bears", borne.get(p));
            f.put("can", b.can());
            f.put("gravel", gravel ? 1 : 0);
            f.put("sway", a.sway);
            more.put(b, byLaw(a.tiring, f, Math.floorDiv(borne.get(p), 20), 99));
            if (b.foot == 0 && p % 2 == 0 || b.foot == 1 && p % 2 == 1) {
                wrong++;
            }
        }
        more.forEach((b, m) -> b.tired = Math.min(1000, b.tired + m));
        a.sway = Math.min(999, Math.floorDiv(a.sway * a.load[3], 100) + wrong);
        return true;
    }

    private static void pace(All a, boolean draws) {
        WayLine line = a.way.get(0);
        List<Integer> letGo = gatePlaces(a);
        if (draws && a.load[5] > 0) {
            int bound = line.gravel() ? Math.min(1000, 2 * a.load[5]) : a.load[5];
            if (draw(a, 1000) < bound) {
                int p = draw(a, 2 * a.load[1]);
                letGo.add(p);
                if (a.places.get(p).who != NONE) {
                    write(a, 1, p, a.places.get(p).who);
                }
            }
        }
        if (!carry(a, line.second(), line.gravel(), letGo)) {
            a.falls++;
            write(a, 0, 0, NONE);
            a.sway = 0;
            ease(a, 1);
        }
        a.pace++;
        a.done++;
        if (a.done == line.first()) {
            a.way.remove(0);
            a.done = 0;
        }
    }

    int paces(int n) {
        if (n < 1 || n > 200 || now.pace + n > 99999) {
            return NONE;
        }
        int done = 0;
        while (done < n && hasPace(now)) {
            past.add(now.copy());
            if (past.size() > 6) {
                past.remove(0);
            }
            lines(now);
            pace(now, true);
            if (!hasPace(now)) {
                lines(now);
            }
            done++;
        }
        return done;
    }

    int of(int bearer, int what) {
        if (bearer < 0 || bearer >= now.bearers.size() || what < 0 || what > 6) {
            return NONE - 1;
        }
        Bearer b = now.bearers.get(bearer);
        int place = NONE;
        for (int p = 0; p < now.places.size(); p++) {
            if (now.places.get(p).who == bearer) {
                place = p;
            }
        }
        return new int[] {b.tall, b.strength, b.foot, b.knee, b.tired, b.can(), place}[what];
    }

    int at(int place, int what) {
        if (place < 0 || place >= now.places.size() || what < 0 || what > 5) {
            return NONE - 1;
        }
        Place p = now.places.get(place);
        return new int[] {p.who, p.cloth, p.kept, p.speed, p.seen, p.who == NONE ? NONE : top(now, place, 0)}[what];
    }

    int book(int i, int what) {
        if (i < 0 || i >= now.book.size() || what < 0 || what > 3) {
            return NONE - 1;
        }
        BookLine line = now.book.get(i);
        return new int[] {line.pace(), line.what(), line.third(), line.bearer()}[what];
    }

    int loads(int place, int slope) {
        if (place < 0 || place >= now.places.size() || slope < -9 || slope > 9) {
            return NONE;
        }
        Map<Integer, Integer> borne = bears(now, slope, List.of());
        return borne == null ? NONE : borne.getOrDefault(place, NONE);
    }

    private static int spread(Map<Integer, Integer> borne) {
        int greatest = borne.values().stream().mapToInt(v -> v).max().getAsInt();
        return greatest - borne.values().stream().mapToInt(v -> v).min().getAsInt();
    }

    int idle(int slope, int what) {
        if (slope < -9 || slope > 9 || what < 0 || what > 1) {
            return NONE;
        }
        Map<Integer, Integer> borne = bears(now, slope, List.of());
        if (borne == null) {
            return NONE;
        }
        int set = 0;
        for (Map.Entry<Integer, Integer> e : borne.entrySet()) {
            set |= e.getValue() == 0 ? 1 << e.getKey() : 0;
        }
        return what == 0 ? set : spread(borne);
    }

    /** All ways to set bearers at all places, the first ones first. */
    private static void settings(All a, int p, boolean keep, List<All> into) {
        if (p == a.places.size()) {
            into.add(a.copy());
            return;
        }
        if (keep && a.places.get(p).kept == 1) {
            settings(a, p + 1, keep, into);
            return;
        }
        for (int b = 0; b < a.bearers.size(); b++) {
            boolean free = true;
            for (int q = 0; q < a.places.size(); q++) {
                boolean fixed = q < p || keep && a.places.get(q).kept == 1;
                if (fixed && a.places.get(q).who == b) {
                    free = false;
                }
            }
            if (free) {
                a.places.get(p).who = b;
                settings(a, p + 1, keep, into);
            }
        }
    }

    private static All bestOrder(All from) {
        List<All> tried = new ArrayList<>();
        All start = from.copy();
        for (Place p : start.places) {
            // Where nobody is, nobody is kept.
            p.kept = p.who == NONE ? 0 : p.kept;
        }
        settings(start, 0, true, tried);
        All best = null;
        int least = Integer.MAX_VALUE;
        for (All a : tried) {
            List<Integer> too = new ArrayList<>();
            Map<Integer, Integer> borne = bears(a, 0, List.of(), too);
            if (borne != null && too.isEmpty() && spread(borne) < least) {
                least = spread(borne);
                best = a;
            }
        }
        return best;
    }

    int order(int what) {
        if (what != 0 && (what < 10 || what >= 10 + now.places.size())) {
            return NONE;
        }
        All best = bestOrder(now);
        if (best == null) {
            return NONE;
        }
        return what == 0 ? spread(bears(best, 0, List.of())) : best.places.get(what - 10).who;
    }

    int dearest() {
        All best = bestOrder(now);
        if (best == null) {
            return NONE;
        }
        int spread = spread(bears(best, 0, List.of()));
        int most = 0;
        int dearest = NONE;
        for (int p = 0; p < now.places.size(); p++) {
            if (now.places.get(p).kept == 0) {
                continue;
            }
            All a = now.copy();
            a.places.get(p).kept = 0;
            All without = bestOrder(a);
            if (without != null && spread - spread(bears(without, 0, List.of())) > most) {
                most = spread - spread(bears(without, 0, List.of()));
                dearest = p;
            }
        }
        return dearest;
    }

    int cloths(int what) {
        int places = now.places.size();
        if (what != 0 && what != 1 && (what < 10 || what >= 10 + places)) {
            return NONE;
        }
        int[] best = null;
        int bestSpread = 0;
        int bestInches = 0;
        All a = now.copy();
        for (int n = 0; n < 1 << 2 * places; n++) {
            int[] cloth = new int[places];
            int inches = 0;
            for (int p = 0; p < places; p++) {
                cloth[p] = n >> 2 * (places - 1 - p) & 3;
                a.places.get(p).cloth = cloth[p];
                inches += cloth[p];
            }
            Map<Integer, Integer> borne = bears(a, 0, List.of());
            if (borne == null) {
                continue;
            }
            int spread = spread(borne);
            if (best == null || spread < bestSpread || spread == bestSpread && inches < bestInches) {
                best = cloth;
                bestSpread = spread;
                bestInches = inches;
            }
        }
        if (best == null) {
            return NONE;
        }
        return what == 0 ? bestSpread : what == 1 ? bestInches : best[what - 10];
    }

    private static int far(All from, int slope) {
        All a = from.copy();
        int paces = 0;
        while (paces < 2000 && carry(a, slope, false, List.of())) {
            paces++;
        }
        return paces;
    }

    int far(int slope) {
        return slope < -9 || slope > 9 ? NONE : far(now, slope);
    }

    int line() {
        All hand = now.copy();
        hand.load[2] = 1;
        All shoulder = now.copy();
        shoulder.load[2] = 0;
        for (int s = 0; s <= 9; s++) {
            if (far(hand, s) > far(shoulder, s)) {
                return s;
            }
        }
        return NONE;
    }

    int gates() {
        int set = 0;
        for (int i = 0; i < now.load[1]; i++) {
            set |= bears(now, 0, List.of(2 * i, 2 * i + 1)) != null ? 1 << i : 0;
        }
        return set;
    }

    int sways(int n) {
        if (n == NONE) {
            return sways(1000) > sways(500) ? 1 : 0;
        }
        if (n < 0 || n > 1000) {
            return NONE - 1;
        }
        int wrong = 0;
        for (int p : holders(now, List.of())) {
            wrong += now.bearers.get(now.places.get(p).who).foot == p % 2 ? 1 : 0;
        }
        int sway = now.sway;
        for (int i = 0; i < n; i++) {
            sway = Math.min(999, sway * now.load[3] / 100 + wrong);
        }
        return sway;
    }

    int goes(int what) {
        All a = now.copy();
        int paces = 0;
        while (hasPace(a)) {
            lines(a);
            pace(a, false);
            if (!hasPace(a)) {
                lines(a);
            }
            paces++;
        }
        int tired = a.bearers.stream().mapToInt(b -> b.tired).max().orElse(0);
        return what == 0 ? paces : what == 1 ? a.falls - now.falls : what == 2 ? tired : NONE;
    }

    int rests() {
        All a = now.copy();
        int minutes = 0;
        while (hasPace(a)) {
            lines(a);
            int here = 0;
            while (bears(a, a.way.get(0).second(), gatePlaces(a)) == null) {
                if (here == 99) {
                    return NONE;
                }
                ease(a, 1);
                here++;
            }
            minutes += here;
            pace(a, false);
        }
        return minutes;
    }

    private int level(int n) {
        int greatest = -1;
        int least = 9999;
        for (int p : holders(now, List.of())) {
            int height = Math.max(0, top(now, p, 0) - n * now.places.get(p).speed);
            greatest = Math.max(greatest, height);
            least = Math.min(least, height);
        }
        return greatest - least;
    }

    int straps(int n, int what) {
        if (n < 0 || n > 60 || what < 0 || what > 2 || holders(now, List.of()).isEmpty()) {
            return NONE;
        }
        int second = 0;
        for (int t = 1; t <= n; t++) {
            second = level(t) > level(second) ? t : second;
        }
        return what == 0 ? level(n) : what == 1 ? level(second) : second;
    }

    boolean seen(int place, int pounds) {
        if (place < 0 || place >= now.places.size() || pounds < NONE || pounds > 999) {
            return false;
        }
        now.places.get(place).seen = pounds;
        for (All a : past) {
            a.places.get(place).seen = pounds;
        }
        return true;
    }

    int fits(int what) {
        if (what != 0 && (what < 10 || what >= 10 + now.places.size())) {
            return NONE;
        }
        List<All> tried = new ArrayList<>();
        settings(now.copy(), 0, false, tried);
        tried.removeIf(a -> {
            Map<Integer, Integer> borne = bears(a, 0, List.of());
            if (borne == null) {
                return true;
            }
            for (int p = 0; p < a.places.size(); p++) {
                int seen = a.places.get(p).seen;
                if (seen != NONE && seen != borne.get(p)) {
                    return true;
                }
            }
            return false;
        });
        if (what == 0) {
            return tried.size();
        }
        return tried.isEmpty() ? NONE : tried.get(0).places.get(what - 10).who;
    }

    int unseen(int what) {
        if (what < 0 || what > 2) {
            return NONE;
        }
        List<int[]> couples = new ArrayList<>();
        for (int p = 0; p < now.places.size(); p++) {
            for (int q = p + 1; q < now.places.size(); q++) {
                boolean both = now.places.get(p).who != NONE && now.places.get(q).who != NONE;
                if (both && bears(now, 0, List.of(p, q)) != null) {
                    couples.add(new int[] {p, q});
                }
            }
        }
        if (what == 0) {
            return couples.size();
        }
        return couples.isEmpty() ? NONE : couples.get(0)[what - 1];
    }

    int helps(int what) {
        int far = far(now, 0);
        int place = NONE;
        int bearer = NONE;
        for (int p : holders(now, List.of())) {
            for (int b = 0; b < now.bearers.size(); b++) {
                if (of(b, 6) != NONE) {
                    continue;
                }
                All a = now.copy();
                change(a, p, b);
                if (far(a, 0) > far) {
                    far = far(a, 0);
                    place = p;
                    bearer = b;
                }
            }
        }
        if (place == NONE) {
            return NONE;
        }
        return what == 0 ? place : what == 1 ? bearer : what == 2 ? far : NONE;
    }

    boolean undo() {
        if (past.isEmpty()) {
            return false;
        }
        now = past.remove(past.size() - 1);
        return true;
    }

    boolean image(boolean taken) {
        if (taken) {
            image = now.copy();
            return true;
        }
        if (image == null) {
            return false;
        }
        now = image.copy();
        past.clear();
        return true;
    }

    int look(int what) {
        switch (what) {
            case 0: case 1: return now.load[what];
            case 2: return now.bearers.size();
            case 3: return now.pace;
            case 4: return now.falls;
            case 5: return now.sway;
            case 6: return now.book.size();
            case 7: return now.state;
            case 8: return now.bearing.size();
            case 9: return now.tiring.size();
            case 10: return now.way.size();
            case 11: return past.size();
            case 20: case 21: case 22: case 23: return now.load[what - 18];
            default: return NONE;
        }
    }
}
