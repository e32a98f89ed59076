import java.util.function.IntSupplier;

/** The edges that "Terms" name up to 1. THE LOAD, and promises 1 to 5, 11, 12, 26 and 32. */
public final class EdgeLoadTest {
    private static final int NONE = SixCarry.NONE;
    private static final int LEAST = Integer.MIN_VALUE;
    private static final int GREATEST = Integer.MAX_VALUE;

    private EdgeLoadTest() { }

    public static void main(String[] args) {
        Edges.run(EdgeLoadTest.class);
    }

    @Words(at = "Terms", value = "Quotients go downwards but where it is said.")
    static void quotientsGoDownwards() {
        SixCarry x = new SixCarry();
        x.bearer(60, 300, 0, 0);
        int[] tired = {1000, 999, 997, 996, 4, 3, 1, 0};
        // 300 thousandths are 0.3 each.
        int[] can = {0, 0, 0, 1, 298, 299, 299, 300};
        for (int i = 0; i < tired.length; i++) {
            x.set(10, 0, tired[i]);
            Check.same("CAN of 300 and TIRED " + tired[i], x.of(0, 5), can[i]);
        }
    }

    @Words(at = "Terms", value = "STATE of draws (an int, 0 at first)")
    static void stateIsAnInt() {
        SixCarry x = new SixCarry();
        Check.same("STATE at first", x.look(7), 0);
        int was = 0;
        for (int v : new int[] {LEAST, GREATEST, -1, NONE - 1, 0, 1 << 24}) {
            Check.same("what STATE was", x.state(v), was);
            Check.same("STATE", x.look(7), v);
            was = v;
        }
    }

    private static SixCarry slipping(int slip) {
        SixCarry x = Edges.even(2, 100);
        x.set(5, 0, slip);
        Edges.tell(x, 2, "walk 200;");
        return x;
    }

    @Words(at = "Terms", value = "it becomes 1664525 times itself + 1013904223 (ints, which wrap)")
    static void drawsWrap() {
        SixCarry x = slipping(1000);
        Check.same("without wrapping", Edges.drawn(0), 1013904223);
        Check.same("with wrapping", Edges.drawn(Edges.drawn(0)), 1196435762);
        for (int v : new int[] {0, 1, -1, GREATEST, LEAST, 1013904223, 1290, 1291, -610, 99999999}) {
            x.state(v);
            x.paces(1);
            Check.same("two DRAWS from " + v, x.look(7), Edges.drawn(Edges.drawn(v)));
        }
    }

    /** A draw that is below SLIP is followed by another one. */
    private static void drawIs(int state, int due) {
        for (int slip = Math.max(1, due); slip <= Math.min(1000, due + 1); slip++) {
            SixCarry x = slipping(slip);
            x.state(Edges.ahead(state));
            x.paces(1);
            Check.same("STATE with SLIP " + slip, x.look(7), due < slip ? Edges.drawn(state) : state);
        }
    }

    @Words(at = "Terms", value = "then it is its highest 24 bits (without sign) modulo m")
    static void drawIsItsHighestBits() {
        drawIs(-1, 16777215 % 1000);
        drawIs(LEAST, 8388608 % 1000);
        drawIs(LEAST + 255, 8388608 % 1000);
        drawIs(LEAST + 256, 8388609 % 1000);
        drawIs(GREATEST, 8388607 % 1000);
        drawIs(0, 0);
        drawIs(255, 0);
        drawIs(256, 1);
        drawIs(999 << 8, 999);
        drawIs(1000 << 8, 0);
    }

    private static void within(String name, SixCarry x, int what, int who, int least, int most, IntSupplier shown) {
        for (int v : new int[] {least, most, least}) {
            Check.yes(name + " " + v, x.set(what, who, v));
            Check.same(name, shown.getAsInt(), v);
        }
        for (int v : new int[] {least - 1, most + 1, LEAST, GREATEST}) {
            Edges.refused(x, name + " " + v, 0, () -> x.set(what, who, v) ? 1 : 0);
        }
        x.set(what, who, most);
        for (int v : new int[] {least - 1, most + 1, LEAST, GREATEST}) {
            Edges.refused(x, name + " " + v, 0, () -> x.set(what, who, v) ? 1 : 0);
        }
    }

    @Words(at = "Terms 1", value = "POUNDS 1 .. 999 (400 at first)")
    static void pounds() {
        SixCarry x = new SixCarry();
        Check.same("POUNDS", x.look(0), 400);
        within("POUNDS", x, 0, 0, 1, 999, () -> x.look(0));
    }

    @Words(at = "Terms 1", value = "PAIRS 2 .. 4 (3 at first)")
    static void pairs() {
        SixCarry x = new SixCarry();
        Check.same("PAIRS", x.look(1), 3);
        within("PAIRS", x, 1, 0, 2, 4, () -> x.look(1));
    }

    @Words(at = "Terms 1", value = "PLACES 0 .. 2 PAIRS - 1")
    static void places() {
        SixCarry x = new SixCarry();
        x.bearer(60, 300, 0, 0);
        for (int pairs = 2; pairs <= 4; pairs++) {
            x.set(1, 0, pairs);
            for (int p = -2; p < 12; p++) {
                boolean there = p >= 0 && p <= 2 * pairs - 1;
                Check.same(pairs + " PAIRS, PLACE " + p, x.at(p, 3), there ? 1 : NONE - 1);
                Check.same(pairs + " PAIRS, he is at PLACE " + p, x.place(p, 0) ? 1 : 0, there ? 1 : 0);
            }
            Check.same("he is at the last PLACE", x.of(0, 6), 2 * pairs - 1);
        }
    }

    @Words(at = "Terms 1", value = "PAIRS told anew (the same, too): of all PLACES all is as at first.")
    static void pairsToldAnew() {
        for (int told = 2; told <= 4; told++) {
            SixCarry x = new SixCarry();
            x.set(1, 0, 4);
            for (int p = 0; p < 8; p++) {
                x.bearer(60, 300, 0, 0);
                x.place(p, p);
                x.set(6, p, 6);
                x.set(7, p, 1);
                x.set(8, p, 9);
                x.seen(p, 0);
            }
            Edges.refused(x, "PAIRS 5", 0, () -> x.set(1, 0, 5) ? 1 : 0);
            x.set(1, 0, told);
            for (int p = 0; p < 2 * told; p++) {
                asAtFirst(x, p);
            }
            x.set(1, 0, 4);
            for (int p = 0; p < 8; p++) {
                asAtFirst(x, p);
                Check.same("he stands aside", x.of(p, 6), NONE);
            }
        }
    }

    private static void asAtFirst(SixCarry x, int p) {
        int[] first = {NONE, 0, 0, 1, NONE, NONE};
        for (int what = 0; what < 6; what++) {
            Check.same("of PLACE " + p + " what " + what, x.at(p, what), first[what]);
        }
    }

    @Words(at = "Terms 1", value = "who is there, or nobody (at first)")
    static void nobodyAtFirst() {
        SixCarry x = new SixCarry();
        x.bearer(60, 300, 0, 0);
        for (int p = 0; p < 6; p++) {
            Check.same("at PLACE " + p, x.at(p, 0), NONE);
        }
        Check.same("the first BEARER is at none", x.of(0, 6), NONE);
        x.place(5, 0);
        Check.same("at PLACE 5", x.at(5, 0), 0);
    }

    @Words(at = "Terms 1", value = "a CLOTH 0 .. 6 (0 at first)")
    static void cloth() {
        SixCarry x = new SixCarry();
        Check.same("CLOTH", x.at(5, 1), 0);
        within("CLOTH", x, 6, 5, 0, 6, () -> x.at(5, 1));
    }

    @Words(at = "Terms 1", value = "KEPT or not (not at first)")
    static void kept() {
        SixCarry x = new SixCarry();
        Check.same("KEPT", x.at(5, 2), 0);
        within("KEPT", x, 7, 5, 0, 1, () -> x.at(5, 2));
    }

    @Words(at = "Terms 1", value = "a SPEED 1 .. 9 (1 at first)")
    static void speed() {
        SixCarry x = new SixCarry();
        Check.same("SPEED", x.at(5, 3), 1);
        within("SPEED", x, 8, 5, 1, 9, () -> x.at(5, 3));
    }

    @Words(at = "Terms 1", value = "pounds that were SEEN (none at first)")
    static void seenAtFirst() {
        SixCarry x = new SixCarry();
        for (int p = 0; p < 6; p++) {
            Check.same("SEEN", x.at(p, 4), NONE);
        }
        // None is not 0: then nobody could bear 100.
        SixCarry y = Edges.even(2, 400);
        Check.same("FITS with none SEEN", y.fits(0), 24);
    }

    @Words(at = "Terms 1", value = "BEARERS 0 .. 7 as they come")
    static void bearersAsTheyCome() {
        SixCarry x = new SixCarry();
        for (int b = 0; b < 8; b++) {
            Check.same("none yet", x.of(b, 0), NONE - 1);
            Check.same("how many", x.look(2), b);
            Check.same("his number", x.bearer(60 + b, 100 + b, b % 2, 1 - b % 2), b);
        }
        Check.same("how many", x.look(2), 8);
        for (int b = 0; b < 8; b++) {
            Check.same("TALL", x.of(b, 0), 60 + b);
            Check.same("STRENGTH", x.of(b, 1), 100 + b);
            Check.same("FOOT", x.of(b, 2), b % 2);
            Check.same("KNEE", x.of(b, 3), 1 - b % 2);
        }
        Check.same("no BEARER 8", x.of(8, 0), NONE - 1);
    }

    /** The one of the four that is i may be from least to most. */
    private static void bearerWithin(int i, int least, int most) {
        for (int v : new int[] {least, most}) {
            SixCarry x = new SixCarry();
            int[] of = {60, 100, 0, 0};
            of[i] = v;
            Check.same("he comes", x.bearer(of[0], of[1], of[2], of[3]), 0);
            Check.same("so he is", x.of(0, i), v);
        }
        SixCarry x = new SixCarry();
        for (int v : new int[] {least - 1, most + 1, LEAST, GREATEST}) {
            int[] of = {60, 100, 0, 0};
            of[i] = v;
            Edges.refused(x, "a BEARER with " + v, NONE, () -> x.bearer(of[0], of[1], of[2], of[3]));
        }
    }

    @Words(at = "Terms 1", value = "TALL 40 .. 80")
    static void tall() {
        bearerWithin(0, 40, 80);
    }

    @Words(at = "Terms 1", value = "STRENGTH 0 .. 300")
    static void strength() {
        bearerWithin(1, 0, 300);
        SixCarry x = new SixCarry();
        x.bearer(60, 100, 0, 0);
        within("STRENGTH", x, 9, 0, 0, 300, () -> x.of(0, 1));
    }

    @Words(at = "Terms 1", value = "FOOT 0 left, 1 right (with which he begins)")
    static void foot() {
        bearerWithin(2, 0, 1);
    }

    @Words(at = "Terms 1", value = "KNEE 0, 1")
    static void knee() {
        bearerWithin(3, 0, 1);
    }

    @Words(at = "Terms 1", value = "TIRED 0 .. 1000 (0 at first)")
    static void tired() {
        SixCarry x = new SixCarry();
        x.bearer(60, 100, 0, 0);
        Check.same("TIRED", x.of(0, 4), 0);
        within("TIRED", x, 10, 0, 0, 1000, () -> x.of(0, 4));
    }

    @Words(at = "Terms 1", value = "HANDS 0, 1 (1: by hand)")
    static void hands() {
        SixCarry x = Edges.crew(2, 100, Edges.row(60, 60, 60, 61), Edges.all(4, 300));
        Check.same("HANDS", x.look(20), 0);
        Check.same("on shoulders the tallest bears all", x.loads(3, 0), 100);
        x.set(2, 0, 1);
        Check.same("by hand a quarter", x.loads(3, 0), 25);
        within("HANDS", x, 2, 0, 0, 1, () -> x.look(20));
    }

    @Words(at = "Terms 1", value = "LOOSE 0 .. 200")
    static void loose() {
        SixCarry x = new SixCarry();
        Check.same("LOOSE", x.look(21), 50);
        within("LOOSE", x, 3, 0, 0, 200, () -> x.look(21));
    }

    @Words(at = "Terms 1", value = "EASE 0 .. 1000")
    static void ease() {
        SixCarry x = new SixCarry();
        Check.same("EASE", x.look(22), 100);
        within("EASE", x, 4, 0, 0, 1000, () -> x.look(22));
    }

    @Words(at = "Terms 1", value = "SLIP 0 .. 1000 (0, 50, 100, 0 at first)")
    static void slip() {
        SixCarry x = new SixCarry();
        int[] first = {0, 50, 100, 0};
        for (int i = 0; i < 4; i++) {
            Check.same("at first " + i, x.look(20 + i), first[i]);
        }
        within("SLIP", x, 5, 0, 0, 1000, () -> x.look(23));
    }

    @Words(at = "Terms 1", value = "PACE 0 .. 99999, FALLS, SWAY 0 .. 999 (0 each at first)")
    static void paceFallsAndSway() {
        SixCarry x = new SixCarry();
        for (int what = 3; what <= 5; what++) {
            Check.same("at first " + what, x.look(what), 0);
        }
    }

    @Words(at = "Promise 1", value = "Three pairs of places, nobody there.")
    static void newObject() {
        SixCarry x = new SixCarry();
        Check.same("PAIRS", x.look(1), 3);
        Check.same("BEARERS", x.look(2), 0);
        for (int p = 0; p < 6; p++) {
            Check.same("nobody", x.at(p, 0), NONE);
        }
        Check.same("no seventh PLACE", x.at(6, 0), NONE - 1);
        Check.same("nobody bears", x.idle(0, 0), NONE);
    }

    @Words(at = "Promise 2", value = "STATE is told: what it was.")
    static void stateTold() {
        SixCarry x = slipping(1000);
        x.state(GREATEST);
        x.paces(1);
        int drawn = (int) Edges.drawn(Edges.drawn(GREATEST));
        Check.same("what the DRAWS made of it", x.state(LEAST), drawn);
        Check.same("what was told", x.state(LEAST), LEAST);
        Check.same("the same again", x.state(0), LEAST);
    }

    @Words(at = "Promise 3", value = "NONE if one can't be, or there are eight.")
    static void ninthBearer() {
        SixCarry x = new SixCarry();
        for (int b = 0; b < 7; b++) {
            x.bearer(60, 100, 0, 0);
        }
        Edges.refused(x, "an eighth who can't be", NONE, () -> x.bearer(81, 100, 0, 0));
        Check.same("the eighth", x.bearer(80, 300, 1, 1), 7);
        Edges.refused(x, "a ninth", NONE, () -> x.bearer(60, 100, 0, 0));
        Edges.refused(x, "a ninth who can't be", NONE, () -> x.bearer(60, 100, 0, 2));
        Check.same("eight", x.look(2), 8);
    }

    @Words(at = "Promise 4", value = "(who not asked)")
    static void whoIsNotAsked() {
        int[] value = {999, 4, 1, 200, 1000, 1000};
        for (int what = 0; what < 6; what++) {
            for (int who : new int[] {LEAST, -1, 0, 8, GREATEST}) {
                SixCarry x = new SixCarry();
                Check.yes("what " + what + " who " + who, x.set(what, who, value[what]));
                Check.same("told", x.look(what < 2 ? what : 18 + what), value[what]);
            }
        }
    }

    @Words(at = "Promise 4", value = "6 CLOTH, 7 KEPT, 8 SPEED of PLACE who")
    static void placeWho() {
        for (int pairs = 2; pairs <= 4; pairs++) {
            SixCarry x = new SixCarry();
            x.set(1, 0, pairs);
            for (int what = 6; what <= 8; what++) {
                int told = what;
                for (int who : new int[] {LEAST, -1, 2 * pairs, 2 * pairs + 1, 8, GREATEST}) {
                    Edges.refused(x, "what " + what + " of PLACE " + who, 0, () -> x.set(told, who, 1) ? 1 : 0);
                }
                Check.yes("what " + what + " of the first PLACE", x.set(what, 0, 1));
                Check.yes("what " + what + " of the last PLACE", x.set(what, 2 * pairs - 1, 1));
                Check.same("of the last PLACE", x.at(2 * pairs - 1, what - 5), 1);
            }
        }
    }

    @Words(at = "Promise 4", value = "9 STRENGTH, 10 TIRED of BEARER who")
    static void bearerWho() {
        SixCarry x = new SixCarry();
        for (int b = 0; b <= 8; b++) {
            int next = b;
            for (int what = 9; what <= 10; what++) {
                int told = what;
                Edges.refused(x, "what " + what + " of BEARER " + b, 0, () -> x.set(told, next, 1) ? 1 : 0);
                Edges.refused(x, "what " + what + " of BEARER -1", 0, () -> x.set(told, -1, 1) ? 1 : 0);
                Edges.refused(x, "what " + what + " of no BEARER", 0, () -> x.set(told, GREATEST, 1) ? 1 : 0);
                Edges.refused(x, "what " + what + " of no BEARER", 0, () -> x.set(told, LEAST, 1) ? 1 : 0);
            }
            if (x.bearer(60, 100, 0, 0) == b) {
                Check.yes("his STRENGTH", x.set(9, b, b));
                Check.yes("his TIRED", x.set(10, b, 10 + b));
            }
        }
        for (int b = 0; b < 8; b++) {
            Check.same("STRENGTH", x.of(b, 1), b);
            Check.same("TIRED", x.of(b, 4), 10 + b);
        }
    }

    @Words(at = "Promise 4", value = "false if one can't be, or another what.")
    static void anotherWhat() {
        SixCarry x = Edges.even(3, 100);
        for (int what : new int[] {LEAST, -1, 11, 12, 16, 20, GREATEST}) {
            for (int v = 0; v < 4; v++) {
                int value = v;
                Edges.refused(x, "what " + what, 0, () -> x.set(what, 1, value) ? 1 : 0);
            }
        }
    }

    @Words(at = "Promise 5", value = "(NONE: nobody)")
    static void placeNobody() {
        SixCarry x = Edges.even(2, 100);
        for (int p : new int[] {0, 3}) {
            Check.yes("nobody is there", x.place(p, NONE));
            Check.same("nobody", x.at(p, 0), NONE);
            Check.same("he stands aside", x.of(p, 6), NONE);
            Check.yes("nobody where nobody is", x.place(p, NONE));
            Check.same("nobody", x.at(p, 0), NONE);
        }
        Check.same("the others stay", x.of(1, 6), 1);
        Check.same("the others stay", x.of(2, 6), 2);
        x.place(0, 0);
        x.set(1, 0, 3);
        x.place(5, 0);
        Check.yes("nobody at the last one", x.place(5, NONE));
        Check.same("nobody", x.of(0, 6), NONE);
    }

    @Words(at = "Promise 5", value = "as by a change")
    static void placeAsByAChange() {
        SixCarry x = Edges.even(2, 100);
        Check.yes("to his own PLACE", x.place(3, 3));
        Check.same("he stays", x.of(3, 6), 3);
        Check.same("he is there", x.at(3, 0), 3);
        Check.yes("from the first to the last", x.place(3, 0));
        Check.same("his own one", x.at(0, 0), NONE);
        Check.same("he is there", x.at(3, 0), 0);
        Check.same("who was there stands aside", x.of(3, 6), NONE);
        Check.yes("where nobody is", x.place(0, 3));
        Check.same("he is there", x.of(3, 6), 0);
        Check.same("a place is not told by THE BOOK", x.look(6), 0);
    }

    @Words(at = "Promise 5", value = "true; false if one can't be.")
    static void placeCannotBe() {
        SixCarry x = Edges.even(2, 100);
        for (int p : new int[] {LEAST, -1, 4, 5, 8, GREATEST}) {
            Edges.refused(x, "BEARER 0 at PLACE " + p, 0, () -> x.place(p, 0) ? 1 : 0);
            Edges.refused(x, "nobody at PLACE " + p, 0, () -> x.place(p, NONE) ? 1 : 0);
        }
        for (int b : new int[] {LEAST, -2, 4, 7, 8, GREATEST}) {
            Edges.refused(x, "BEARER " + b + " at PLACE 0", 0, () -> x.place(0, b) ? 1 : 0);
        }
    }

    @Words(at = "Promise 11", value = "6 the PLACE (NONE)")
    static void ofNoPlace() {
        SixCarry x = Edges.even(4, 100);
        for (int b = 0; b < 8; b++) {
            Check.same("his PLACE", x.of(b, 6), b);
            x.place(b, NONE);
            Check.same("he stands aside", x.of(b, 6), NONE);
        }
    }

    @Words(at = "Promise 11", value = "5 what he CAN")
    static void ofCan() {
        SixCarry x = new SixCarry();
        x.bearer(60, 0, 0, 0);
        x.bearer(60, 1, 0, 0);
        Check.same("of STRENGTH 0", x.of(0, 5), 0);
        Check.same("of STRENGTH 1", x.of(1, 5), 1);
        x.set(10, 1, 1);
        Check.same("TIRED by 1", x.of(1, 5), 0);
        x.set(9, 1, 300);
        x.set(10, 1, 1000);
        Check.same("as TIRED as can be", x.of(1, 5), 0);
    }

    @Words(at = "Promise 11", value = "NONE - 1 if there is none such, or another what.")
    static void ofNoneSuch() {
        SixCarry x = new SixCarry();
        for (int b = 0; b < 8; b++) {
            for (int what = 0; what <= 6; what++) {
                Check.same("BEARER " + b + ", what " + what, x.of(b, what), NONE - 1);
            }
            x.bearer(60, 100, 0, 0);
            Check.same("he came", x.of(b, 0), 60);
        }
        for (int b : new int[] {LEAST, -1, 8, GREATEST}) {
            Check.same("BEARER " + b, x.of(b, 6), NONE - 1);
        }
        for (int what : new int[] {LEAST, -1, 7, 10, GREATEST}) {
            Check.same("what " + what, x.of(7, what), NONE - 1);
        }
    }

    @Words(at = "Promise 12", value = "0 the BEARER (NONE)")
    static void atNobody() {
        SixCarry x = Edges.even(4, 100);
        Check.same("the first", x.at(0, 0), 0);
        Check.same("the last", x.at(7, 0), 7);
        x.place(7, NONE);
        Check.same("nobody", x.at(7, 0), NONE);
    }

    @Words(at = "Promise 12", value = "4 SEEN (NONE)")
    static void atNoneSeen() {
        SixCarry x = new SixCarry();
        Check.same("none", x.at(0, 4), NONE);
        x.seen(0, 0);
        Check.same("0 is some", x.at(0, 4), 0);
        x.seen(0, NONE);
        Check.same("none again", x.at(0, 4), NONE);
    }

    @Words(at = "Promise 12", value = "5 TOP on the level (NONE)")
    static void atTop() {
        SixCarry x = new SixCarry();
        x.bearer(40, 100, 0, 0);
        x.bearer(80, 100, 0, 0);
        Check.same("nobody", x.at(0, 5), NONE);
        x.set(6, 0, 6);
        Check.same("a CLOTH alone", x.at(0, 5), NONE);
        x.place(0, 0);
        Check.same("40 and 6", x.at(0, 5), 46);
        x.place(0, 1);
        Check.same("80 and 6", x.at(0, 5), 86);
        x.set(6, 0, 0);
        Check.same("80", x.at(0, 5), 80);
        x.place(0, NONE);
        Check.same("nobody", x.at(0, 5), NONE);
    }

    @Words(at = "Promise 12", value = "NONE - 1 if there is none such, or another what.")
    static void atNoneSuch() {
        for (int pairs = 2; pairs <= 4; pairs++) {
            SixCarry x = new SixCarry();
            x.set(1, 0, pairs);
            for (int p : new int[] {LEAST, -1, 2 * pairs, 8, GREATEST}) {
                for (int what = 0; what <= 5; what++) {
                    Check.same("PLACE " + p + ", what " + what, x.at(p, what), NONE - 1);
                }
            }
            for (int what : new int[] {LEAST, -1, 6, 10, GREATEST}) {
                Check.same("what " + what, x.at(2 * pairs - 1, what), NONE - 1);
            }
        }
    }

    @Words(at = "Promise 26", value = "Pounds were SEEN of a PLACE (NONE: none)")
    static void seenNone() {
        SixCarry x = Edges.even(2, 100);
        Check.yes("24 at 3", x.seen(3, 24));
        Check.same("nobody bears 24", x.fits(0), 0);
        Check.yes("none", x.seen(3, NONE));
        Check.same("none SEEN", x.at(3, 4), NONE);
        Check.same("all ways", x.fits(0), 24);
        Check.yes("none where none was", x.seen(0, NONE));
    }

    @Words(at = "Promise 26", value = "true; false if one can't be (0 .. 999).")
    static void seenCannotBe() {
        SixCarry x = new SixCarry();
        for (int pounds : new int[] {0, 999}) {
            Check.yes("SEEN " + pounds, x.seen(5, pounds));
            Check.same("SEEN", x.at(5, 4), pounds);
        }
        for (int pounds : new int[] {LEAST, -2, 1000, GREATEST}) {
            Edges.refused(x, "SEEN " + pounds, 0, () -> x.seen(5, pounds) ? 1 : 0);
        }
        for (int p : new int[] {LEAST, -1, 6, 7, GREATEST}) {
            Edges.refused(x, "SEEN of PLACE " + p, 0, () -> x.seen(p, 5) ? 1 : 0);
            Edges.refused(x, "none SEEN of PLACE " + p, 0, () -> x.seen(p, NONE) ? 1 : 0);
        }
    }

    @Words(at = "Promise 32", value = "10 lines of A WAY that are left (one that is begun, too)")
    static void linesThatAreLeft() {
        SixCarry x = Edges.even(2, 100);
        Check.same("no way", x.look(10), 0);
        Edges.tell(x, 2, "walk 2; rest 1; walk 1; rest 1;");
        Check.same("all", x.look(10), 4);
        x.paces(1);
        Check.same("one that is begun", x.look(10), 4);
        x.paces(1);
        Check.same("one that is done", x.look(10), 3);
        x.paces(1);
        Check.same("the last pace is done, and what is behind it", x.look(10), 0);
        Edges.tell(x, 2, "rest 1; rest 2; cloth 0 in 1;");
        Check.same("without a pace", x.look(10), 3);
        x.paces(1);
        Check.same("nothing is done", x.look(10), 3);
    }

    @Words(at = "Promise 32", value = "11 what can be undone")
    static void whatCanBeUndone() {
        SixCarry x = Edges.even(2, 100);
        Edges.tell(x, 2, "walk 9;");
        int[] due = {1, 2, 3, 4, 5, 6, 6, 6};
        for (int want : due) {
            x.paces(1);
            Check.same("after a pace", x.look(11), want);
        }
        for (int i = 5; i >= 0; i--) {
            x.undo();
            Check.same("after an undo", x.look(11), i);
        }
        x.undo();
        Check.same("not below 0", x.look(11), 0);
    }

    @Words(at = "Promise 32", value = "NONE for another what.")
    static void lookAnotherWhat() {
        SixCarry x = new SixCarry();
        for (int what = -40; what < 60; what++) {
            boolean known = what >= 0 && what <= 11 || what >= 20 && what <= 23;
            Check.same("what " + what + " is another", x.look(what) == NONE ? 1 : 0, known ? 0 : 1);
        }
        Check.same("the least", x.look(LEAST), NONE);
        Check.same("the greatest", x.look(GREATEST), NONE);
    }

    @Words(at = "Promise 32", value = "(STATE as it is.)")
    static void lookState() {
        SixCarry x = new SixCarry();
        for (int v : new int[] {NONE, NONE - 1, LEAST, GREATEST, 0}) {
            x.state(v);
            Check.same("STATE", x.look(7), v);
        }
    }
}
