import java.util.Random;

/** Random runs of calls, each answered by the class and by the plain model. */
public final class ModelTest {
    private static final int RUNS = Integer.getInteger("runs", 400);
    private static final int CALLS = 250;
    private static final String[] UNITS = {"tall", "strength", "knee", "tired", "cloth", "pair", "right", "up", "down", "hands"};
    private static final String[] TIRING = {"bears", "can", "gravel", "sway"};
    private final Random random;
    private final SixCarry x = new SixCarry();
    private final PlainModel m = new PlainModel();
    private final int run;
    private int pairs = 3;

    private ModelTest(int run) {
        this.run = run;
        random = new Random(7919L * run + 17);
    }

    public static void main(String[] args) {
        int first = Integer.getInteger("first", 0);
        for (int run = first; run < first + RUNS && Check.allRight(); run++) {
            new ModelTest(run).go();
        }
        Check.close();
    }

    private void go() {
        begin();
        for (int i = 0; i < CALLS && Check.allRight(); i++) {
            call(random.nextInt(100));
            if (i % 10 == 9) {
                compareAll();
            }
        }
        compareAll();
    }

    private int pick(int least, int most) {
        return least + random.nextInt(most - least + 1);
    }

    private boolean chance(int percent) {
        return random.nextInt(100) < percent;
    }

    private void same(String call, long got, long want) {
        Check.same("run " + run + ": " + call, got, want);
    }

    private void same(String call, boolean got, boolean want) {
        same(call, got ? 1 : 0, want ? 1 : 0);
    }

    /** A crew that mostly can bear the load, so that the runs tell something. */
    private void begin() {
        pairs = chance(60) ? 2 : chance(85) ? 3 : 4;
        set(1, 0, pairs);
        set(0, 0, pick(20, chance(50) ? 150 : 600));
        int crew = pick(2, pairs == 2 ? 6 : pairs == 3 ? 7 : 6);
        for (int b = 0; b < crew; b++) {
            bearer(pick(55, 65), pick(20, 300), pick(0, 1), pick(0, 1));
        }
        for (int p = 0; p < 2 * pairs; p++) {
            if (chance(90)) {
                place(p, Math.min(p, crew - 1));
            }
        }
        for (int p = 0; p < 2 * pairs; p++) {
            if (chance(20)) {
                set(7, p, 1);
            }
        }
        if (chance(40)) {
            set(5, 0, pick(0, 500));
        }
        text(2, way());
    }

    private void bearer(int tall, int strength, int foot, int knee) {
        same("bearer", x.bearer(tall, strength, foot, knee), m.bearer(tall, strength, foot, knee));
    }

    private void set(int what, int who, int v) {
        same("set " + what + " " + who + " " + v, x.set(what, who, v), m.set(what, who, v));
    }

    private void place(int place, int bearer) {
        same("place " + place + " " + bearer, x.place(place, bearer), m.place(place, bearer));
    }

    private void text(int k, String text) {
        String fed = text.length() > 400 ? text.substring(0, 400) : text;
        for (int from = 0; from < fed.length(); from += 20) {
            int[] n = new int[5];
            for (int i = 0; i < 5; i++) {
                n[i] = Tape.four(fed, from + 4 * i);
            }
            same("feed", x.feed(n[0], n[1], n[2], n[3], n[4]), m.feed(n));
        }
        same("end", x.end(fed.length()), m.end(fed.length()));
        same("text " + k + " " + fed, x.text(k), m.text(k));
        same("fault of " + fed, x.fault(0), m.fault(0));
        same("place of the fault in " + fed, x.fault(1), m.fault(1));
    }

    private String unit(int k) {
        if (chance(45)) {
            return Integer.toString(chance(90) ? pick(0, 30) : pick(0, 9999));
        }
        if (chance(35)) {
            return k == 0 ? "over" : TIRING[random.nextInt(TIRING.length)];
        }
        return UNITS[random.nextInt(UNITS.length)];
    }

    private String sum(int k) {
        StringBuilder e = new StringBuilder(unit(k));
        for (int i = pick(0, 3); i > 0; i--) {
            int sign = random.nextInt(4);
            e.append(" + ", sign == 0 ? 0 : 1, sign == 0 ? 3 : 1);
            e.append(sign == 1 ? " - " : sign == 2 ? " * " : sign == 3 ? " / " : "");
            e.append(sign == 3 ? Integer.toString(pick(1, 20)) : unit(k));
        }
        return e.toString();
    }

    private String condition(int k, int depth) {
        int sort = random.nextInt(6);
        if (depth > 2 || sort < 3) {
            return sum(k) + " " + "<=>".charAt(random.nextInt(3)) + " " + sum(k);
        }
        if (sort == 3) {
            return "not " + condition(k, depth + 1);
        }
        if (sort == 4) {
            return "(" + condition(k, depth + 1) + (chance(50) ? " and " : " or ") + condition(k, depth + 1) + ")";
        }
        return condition(k, depth + 1) + (chance(50) ? " and " : " or ") + condition(k, depth + 1);
    }

    private String law(int k) {
        StringBuilder law = new StringBuilder();
        for (int i = pick(0, 4); i > 0; i--) {
            law.append(k == 0 ? "bear " : "tire ").append(sum(k));
            if (chance(60)) {
                law.append(" when ").append(condition(k, 0));
            }
            law.append(";").append(chance(50) ? "\n" : "");
        }
        return law.toString();
    }

    private String way() {
        StringBuilder way = new StringBuilder();
        for (int i = pick(0, 9); i > 0; i--) {
            switch (random.nextInt(7)) {
                case 0: way.append("gate ").append(pick(1, 12)); break;
                case 1: way.append("rest ").append(pick(1, 5)); break;
                case 2: way.append("change ").append(pick(0, 2 * pairs - 1)).append(" to ").append(pick(0, 4)); break;
                case 3: way.append("cloth ").append(pick(0, 2 * pairs - 1)).append(" in ").append(pick(0, 6)); break;
                default:
                    way.append("walk ").append(pick(1, 15));
                    way.append(chance(30) ? " up " + pick(1, 9) : chance(40) ? " down " + pick(1, 9) : "");
                    way.append(chance(30) ? " gravel" : "");
                    break;
            }
            way.append("; ");
        }
        return way.toString();
    }

    /** A sign is changed, left out or doubled, so that most such texts have a FAULT somewhere. */
    private String spoilt(String text) {
        if (text.isEmpty()) {
            return "x";
        }
        int i = random.nextInt(text.length());
        String signs = ";+-*/()<=>09 x\t";
        switch (random.nextInt(4)) {
            case 0: return text.substring(0, i) + text.substring(i + 1);
            case 1: return text.substring(0, i) + text.charAt(i) + text.substring(i);
            case 2: return text.substring(0, i) + signs.charAt(random.nextInt(signs.length())) + text.substring(i + 1);
            default: return text.substring(0, i);
        }
    }

    private void tellText() {
        int k = random.nextInt(3);
        String text = k == 2 ? way() : law(k);
        if (k == 2 && chance(10)) {
            text = "walk 3;".repeat(pick(38, 43));
        }
        if (k < 2 && chance(10)) {
            text = (k == 0 ? "bear 1 when 1 = 2;" : "tire 1 when 1 = 2;").repeat(pick(14, 18));
        }
        text(chance(95) ? k : pick(-1, 4), chance(25) ? spoilt(text) : text);
    }

    private void call(int sort) {
        if (sort < 6) {
            tellText();
        } else if (sort < 14) {
            int what = pick(-1, 11);
            if (what == 1 && chance(85)) {
                what = chance(50) ? 7 : 0;
            }
            set(what, pick(-1, 7), value(what));
            pairs = m.look(1);
        } else if (sort < 18) {
            place(pick(0, 2 * pairs), pick(-1, m.look(2)));
        } else if (sort < 20) {
            if (m.look(2) < 6) {
                bearer(pick(54, 66), pick(0, 300), pick(0, 1), pick(-1, 1));
            }
        } else if (sort < 36) {
            int n = chance(70) ? pick(1, 4) : pick(-1, 202);
            same("paces " + n, x.paces(n), m.paces(n));
        } else if (sort < 42) {
            same("undo", x.undo(), m.undo());
        } else if (sort < 45) {
            boolean taken = chance(40);
            same("image " + taken, x.image(taken), m.image(taken));
            pairs = m.look(1);
        } else if (sort < 46) {
            int v = random.nextInt();
            same("state", x.state(v), m.state(v));
        } else if (sort < 49) {
            int place = pick(-1, 2 * pairs);
            int borne = m.loads(place, 0);
            int pounds = chance(70) ? borne : pick(-2, 1000);
            same("seen", x.seen(place, pounds), m.seen(place, pounds));
        } else {
            think(sort);
        }
    }

    private int value(int what) {
        switch (what) {
            case 0: return pick(1, chance(90) ? 400 : 1001);
            case 1: return pick(1, 4);
            case 2: case 7: return pick(0, 1) + (chance(5) ? 1 : 0);
            case 3: return pick(0, 201);
            case 4: case 5: case 10: return pick(0, chance(70) ? 300 : 1001);
            case 9: return pick(0, 301);
            default: return pick(0, 10);
        }
    }

    private void think(int sort) {
        int slope = pick(-10, 10);
        boolean small = pairs == 2 || pairs == 3 && m.look(2) < 7 && chance(30);
        switch ((sort - 49) / 3) {
            case 0: case 1: {
                int place = pick(-1, 2 * pairs);
                same("loads " + place + " " + slope, x.loads(place, slope), m.loads(place, slope));
                break;
            }
            case 2: {
                int what = pick(-1, 2);
                same("idle " + slope + " " + what, x.idle(slope, what), m.idle(slope, what));
                break;
            }
            case 3: {
                int what = chance(30) ? pick(-1, 20) : chance(50) ? 0 : 10 + pick(0, 2 * pairs - 1);
                if (small) {
                    same("order " + what, x.order(what), m.order(what));
                }
                break;
            }
            case 4:
                if (small || chance(20)) {
                    same("dearest", x.dearest(), m.dearest());
                }
                break;
            case 5: {
                int what = chance(30) ? pick(-1, 20) : chance(50) ? pick(0, 1) : 10 + pick(0, 2 * pairs - 1);
                if (small) {
                    same("cloths " + what, x.cloths(what), m.cloths(what));
                }
                break;
            }
            case 6:
                same("far " + slope, x.far(slope), m.far(slope));
                break;
            case 7:
                if (chance(20)) {
                    same("line", x.line(), m.line());
                }
                break;
            case 8:
                same("gates", x.gates(), m.gates());
                break;
            case 9: {
                int n = pick(-2, chance(80) ? 20 : 1002);
                same("sways " + n, x.sways(n), m.sways(n));
                break;
            }
            case 10: {
                int what = pick(-1, 3);
                same("goes " + what, x.goes(what), m.goes(what));
                break;
            }
            case 11: case 12:
                same("rests", x.rests(), m.rests());
                break;
            case 13: {
                int n = pick(-1, 61);
                int what = pick(-1, 3);
                same("straps " + n + " " + what, x.straps(n, what), m.straps(n, what));
                break;
            }
            case 14: {
                int what = chance(30) ? pick(-1, 20) : chance(50) ? 0 : 10 + pick(0, 2 * pairs - 1);
                if (small) {
                    same("fits " + what, x.fits(what), m.fits(what));
                }
                break;
            }
            case 15: {
                int what = pick(-1, 3);
                same("unseen " + what, x.unseen(what), m.unseen(what));
                break;
            }
            default: {
                int what = pick(-1, 3);
                if (chance(40)) {
                    same("helps " + what, x.helps(what), m.helps(what));
                }
                break;
            }
        }
    }

    private void compareAll() {
        for (int what = -1; what < 25; what++) {
            same("look " + what, x.look(what), m.look(what));
        }
        for (int i = -1; i < 9; i++) {
            for (int what = -1; what < 8; what++) {
                same("of " + i + " " + what, x.of(i, what), m.of(i, what));
                same("at " + i + " " + what, x.at(i, what), m.at(i, what));
            }
        }
        for (int i = Math.max(-1, m.look(6) - 12); i < m.look(6) + 1; i++) {
            for (int what = -1; what < 5; what++) {
                same("book " + i + " " + what, x.book(i, what), m.book(i, what));
            }
        }
        same("feed", x.fault(0), m.fault(0));
    }
}
