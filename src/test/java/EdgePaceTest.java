/** The edges that "Terms", 3. A PACE name, UNDO and THE IMAGE, and promises 10, 13, 30 and 31. */
public final class EdgePaceTest {
    private static final int NONE = SixCarry.NONE;
    private static final int LEAST = Integer.MIN_VALUE;
    private static final int GREATEST = Integer.MAX_VALUE;

    private EdgePaceTest() { }

    public static void main(String[] args) {
        Edges.run(EdgePaceTest.class);
    }

    /** By hand, as many as there are places; each is tired by one in each pace in which he HOLDS. */
    private static SixCarry walking(int pairs, String way) {
        SixCarry x = Edges.even(pairs, 100);
        Edges.tell(x, 1, "tire 1;");
        Edges.tell(x, 2, way);
        return x;
    }

    private static void tired(String what, SixCarry x, int... due) {
        for (int b = 0; b < due.length; b++) {
            Check.same(what + ": TIRED of " + b, x.of(b, 4), due[b]);
        }
    }

    private static void booked(SixCarry x, int line, int... due) {
        for (int what = 0; what < 4; what++) {
            Check.same("line " + line + " of THE BOOK, what " + what, x.book(line, what), due[what]);
        }
    }

    @Words(at = "Terms 3", value = "change: that BEARER is at the PLACE (he leaves his own one; who was there stands aside)")
    static void change() {
        SixCarry x = walking(2, "walk 1;");
        x.bearer(60, 300, 0, 0);
        Edges.tell(x, 2, "change 0 to 4; walk 1; change 3 to 4; walk 1; change 3 to 4; walk 1; change 0 to 3; walk 1;");
        x.paces(1);
        Check.same("he is there", x.at(0, 0), 4);
        Check.same("who was there stands aside", x.of(0, 6), NONE);
        x.paces(1);
        Check.same("he leaves his own one", x.at(0, 0), NONE);
        Check.same("he is there", x.of(4, 6), 3);
        Check.same("who was there stands aside", x.of(3, 6), NONE);
        x.paces(1);
        Check.same("to his own one: he stays", x.of(4, 6), 3);
        Check.same("to his own one: he is there", x.at(3, 0), 4);
        x.paces(1);
        Check.same("who stood aside comes where nobody was", x.of(3, 6), 0);
        Check.same("lines of THE BOOK", x.look(6), 4);
        SixCarry y = walking(4, "change 0 to 7; change 7 to 0; walk 1;");
        y.paces(1);
        Check.same("the last BEARER at the first PLACE", y.at(0, 0), 7);
        Check.same("the first BEARER at the last PLACE", y.at(7, 0), 0);
    }

    @Words(at = "Terms 3", value = "cloth: CLOTH")
    static void cloth() {
        SixCarry x = walking(4, "cloth 0 in 6; cloth 7 in 6; walk 1; cloth 7 in 0; walk 1;");
        x.place(7, NONE);
        x.paces(1);
        Check.same("the first PLACE", x.at(0, 1), 6);
        Check.same("the last PLACE, where nobody is", x.at(7, 1), 6);
        Check.same("TOP", x.at(0, 5), 66);
        x.paces(1);
        Check.same("none any more", x.at(7, 1), 0);
        Check.same("nothing in THE BOOK", x.look(6), 0);
    }

    @Words(at = "Terms 3", value = "(a PLACE that is there no more: nothing)")
    static void placeThatIsNoMore() {
        for (int pairs = 2; pairs <= 3; pairs++) {
            for (int p = 0; p < 8; p++) {
                SixCarry x = walking(4, "change " + p + " to 0; cloth " + p + " in 6; walk 1;");
                x.set(1, 0, pairs);
                x.place(1, 0);
                boolean there = p < 2 * pairs;
                Check.same("a pace all the same", x.paces(1), 1);
                Check.same("where he is", x.of(0, 6), there ? p : 1);
                Check.same("lines of THE BOOK", x.look(6), there ? 1 : 0);
                Check.same("the CLOTH", x.at(p, 1), there ? 6 : NONE - 1);
                Check.same("who is at PLACE 1", x.at(1, 0), there && p != 1 ? NONE : 0);
            }
        }
    }

    @Words(at = "Terms 3", value = "no PACE, the next line at once")
    static void noPace() {
        SixCarry x = walking(2, "change 0 to 1; cloth 0 in 1; rest 1; walk 1; cloth 0 in 2; walk 1;");
        Check.same("two PACES in all", x.goes(0), 2);
        Check.same("one", x.paces(1), 1);
        Check.same("PACE", x.look(3), 1);
        Check.same("the lines ahead of it are done", x.at(0, 1), 1);
        Check.same("those behind it are not yet", x.look(10), 2);
        Check.same("one more", x.paces(200), 1);
        Check.same("PACE", x.look(3), 2);
        Check.same("the CLOTH", x.at(0, 1), 2);
        Check.same("nothing is left", x.look(10), 0);
    }

    @Words(at = "Terms 3", value = "rest: of all BEARERS TIRED is EASE for each minute less (0 at least), likewise")
    static void rest() {
        SixCarry x = walking(2, "rest 99; walk 1;");
        for (int i = 0; i < 2; i++) {
            x.bearer(60, 300, 0, 0);
        }
        Edges.tell(x, 1, "tire 0;");
        x.set(4, 0, 10);
        int[] was = {1000, 991, 990, 989, 1000, 0};
        for (int b = 0; b < 6; b++) {
            x.set(10, b, was[b]);
        }
        x.set(0, 0, 3);
        Check.same("a pace", x.paces(1), 1);
        tired("990 less, aside, too", x, 10, 1, 0, 0, 10, 0);
        booked(x, 0, 0, 3, 99, NONE);
        Edges.tell(x, 2, "rest 1; walk 1;");
        x.set(4, 0, 0);
        x.paces(1);
        tired("no EASE", x, 10, 1, 0, 0, 10, 0);
        Edges.tell(x, 2, "rest 1; walk 1; rest 99;");
        x.set(4, 0, 1000);
        x.set(10, 0, 1000);
        x.set(10, 5, 999);
        x.paces(1);
        tired("all of it", x, 0, 0, 0, 0, 0, 0);
    }

    @Words(at = "Terms 3", value = "in pace k, 0 .. N - 1, pair k times PAIRS by N lets go")
    static void gate() {
        for (int pairs = 2; pairs <= 4; pairs++) {
            for (int n : new int[] {1, 2, 3, 4, 5, 7, 199, 200}) {
                SixCarry x = walking(pairs, "gate " + n + "; walk 1;");
                int[] due = new int[2 * pairs];
                for (int k = 0; k < n; k++) {
                    x.paces(1);
                    for (int b = 0; b < 2 * pairs; b++) {
                        due[b] += b / 2 == k * pairs / n ? 0 : 1;
                    }
                    tired(pairs + " PAIRS, pace " + k + " of " + n, x, due);
                }
                Check.same("one pace is left", x.goes(0), 1);
            }
        }
        SixCarry x = walking(3, "gate 200;");
        x.paces(67);
        tired("0 to 66 are those of pair 0", x, 0, 0, 67, 67, 67, 67);
        x.paces(67);
        tired("67 to 133 are those of pair 1", x, 67, 67, 67, 67, 134, 134);
        x.paces(66);
        tired("134 to 199 are those of pair 2", x, 133, 133, 133, 133, 134, 134);
        SixCarry y = walking(4, "gate 1;");
        y.paces(1);
        tired("one pace: the first pair alone", y, 0, 0, 1, 1, 1, 1, 1, 1);
    }

    @Words(at = "Terms 3", value = "(gate: level, no gravel;")
    static void gateIsLevel() {
        SixCarry x = Edges.even(2, 100);
        Edges.tell(x, 1, "tire up + down * 10 + gravel * 50 + 1;");
        Edges.tell(x, 2, "walk 1 up 9 gravel; gate 1; walk 1 down 4; gate 1; walk 1 gravel; gate 1;");
        int[] due = {60, 61, 61 + 41, 61 + 42, 61 + 42 + 51, 61 + 42 + 52};
        for (int want : due) {
            x.paces(1);
            Check.same("TIRED of who HOLDS in the gates", x.of(2, 4), want);
        }
    }

    @Words(at = "Terms 3", value = "(a) If SLIP is above 0, a DRAW of 1000")
    static void noSlip() {
        SixCarry x = walking(2, "walk 200; walk 200 gravel;");
        x.state(5);
        Check.same("paces", x.paces(200), 200);
        Check.same("paces", x.paces(200), 200);
        Check.same("no DRAW with SLIP 0", x.look(7), 5);
        Check.same("nobody slips", x.look(6), 0);
        SixCarry y = walking(2, "walk 1;");
        y.set(5, 0, 1);
        y.state(Edges.ahead(1 << 8));
        y.paces(1);
        Check.same("one DRAW with SLIP 1", y.look(7), 1 << 8);
        Check.same("1 is not below it", y.look(6), 0);
    }

    /** Whether somebody slips in the first pace of a way if the DRAW of 1000 is this. */
    private static void slips(String way, int draw, int slip, boolean due) {
        SixCarry x = walking(2, way);
        x.set(5, 0, slip);
        int state = draw + 3000 << 8;
        x.state(Edges.ahead(state));
        x.paces(1);
        String what = way + " with the DRAW " + draw + " and SLIP " + slip;
        Check.same(what + ": STATE", x.look(7), due ? Edges.drawn(state) : state);
        Check.same(what + ": THE BOOK", x.look(6), due ? 1 : 0);
        int hold = 0;
        for (int b = 0; b < 4; b++) {
            hold += x.of(b, 4);
        }
        if (way.startsWith("walk")) {
            Check.same(what + ": how many HOLD", hold, due ? 3 : 4);
        }
    }

    @Words(at = "Terms 3", value = "below SLIP (twice that on gravel, 1000 at most)")
    static void belowSlip() {
        slips("walk 1;", 0, 1, true);
        slips("walk 1;", 1, 1, false);
        slips("walk 1;", 499, 499, false);
        slips("walk 1;", 499, 500, true);
        slips("walk 1;", 998, 999, true);
        slips("walk 1;", 999, 999, false);
        slips("walk 1;", 999, 1000, true);
        slips("walk 1 up 9;", 500, 500, false);
        slips("walk 1 gravel;", 1, 1, true);
        slips("walk 1 gravel;", 2, 1, false);
        slips("walk 1 gravel;", 499, 249, false);
        slips("walk 1 gravel;", 499, 250, true);
        slips("walk 1 gravel;", 998, 499, false);
        slips("walk 1 gravel;", 999, 500, true);
        slips("walk 1 gravel;", 999, 501, true);
        slips("walk 1 gravel;", 999, 1000, true);
        slips("walk 1 down 1 gravel;", 499, 250, true);
        slips("gate 1;", 499, 250, false);
        slips("gate 1;", 499, 500, true);
    }

    /** The second DRAW from here is this one of m, the one ahead of it is below 1000. */
    private static int stateFor(int p, int m) {
        return Edges.ahead(Edges.ahead(p + 77 * m << 8 | 200));
    }

    @Words(at = "Terms 3", value = "who is at the PLACE by a DRAW of 2 PAIRS lets go as well.")
    static void drawOfPlaces() {
        for (int pairs = 2; pairs <= 4; pairs++) {
            for (int p = 0; p < 2 * pairs; p++) {
                SixCarry x = walking(pairs, "walk 1;");
                x.set(5, 0, 1000);
                x.state(stateFor(p, 2 * pairs));
                x.paces(1);
                for (int b = 0; b < 2 * pairs; b++) {
                    Check.same("PLACE " + p + ", TIRED of " + b, x.of(b, 4), b == p ? 0 : 1);
                }
                booked(x, 0, 0, 1, p, p);
            }
        }
        SixCarry x = walking(2, "gate 1;");
        x.set(5, 0, 1000);
        x.state(stateFor(3, 4));
        x.paces(1);
        tired("with the pair in the gate", x, 0, 0, 1, 0);
        SixCarry y = walking(2, "gate 1;");
        y.set(5, 0, 1000);
        y.state(stateFor(1, 4));
        y.paces(1);
        tired("who lets go already", y, 0, 0, 1, 1);
    }

    /** Two at the first PLACES and one aside, of STRENGTH 0: the load FALLS in each pace. */
    private static SixCarry falling(int ease) {
        SixCarry x = new SixCarry();
        for (int b = 0; b < 3; b++) {
            x.bearer(60, 0, 0, 0);
        }
        x.place(0, 0);
        x.place(1, 1);
        x.set(4, 0, ease);
        Edges.tell(x, 1, "tire 50;");
        Edges.tell(x, 2, "walk 200;");
        return x;
    }

    @Words(at = "Terms 3", value = "If it FALLS: FALLS one more, SWAY is 0, of all BEARERS TIRED is EASE less")
    static void falls() {
        SixCarry x = falling(30);
        int[] was = {31, 30, 29};
        for (int b = 0; b < 3; b++) {
            x.set(10, b, was[b]);
        }
        x.paces(1);
        Check.same("FALLS", x.look(4), 1);
        tired("30 less, 0 at least, aside, too", x, 1, 0, 0);
        booked(x, 0, 0, 0, 0, NONE);
        Check.same("PACE", x.look(3), 1);
        x.paces(200);
        Check.same("FALLS", x.look(4), 200);
        SixCarry y = falling(1000);
        y.set(10, 2, 1000);
        y.paces(1);
        tired("all of it", y, 0, 0, 0);
        SixCarry z = falling(0);
        z.set(10, 2, 1000);
        z.paces(1);
        tired("nothing of it", z, 0, 0, 1000);
    }

    @Words(at = "Terms 3", value = "SWAY is 0")
    static void swayAfterAFall() {
        SixCarry x = Edges.crew(2, 100, Edges.row(60), Edges.row(300));
        x.place(1, 0);
        Edges.tell(x, 1, "tire 99;");
        Edges.tell(x, 2, "walk 20;");
        // TIRED 0, 99, .. 594 leave 121 of what he CAN, 693 leaves 92.
        x.paces(7);
        Check.same("he steps wrongly", x.look(5), 1);
        Check.same("not yet", x.look(4), 0);
        x.paces(1);
        Check.same("it FALLS", x.look(4), 1);
        Check.same("SWAY", x.look(5), 0);
        tired("EASE less, not more", x, 593);
        x.paces(1);
        Check.same("he steps wrongly again", x.look(5), 1);
    }

    @Words(at = "Terms 3", value = "each who HOLDS is TIRED by TIRING more (1000 at most)")
    static void mostTired() {
        SixCarry x = Edges.even(2, 3);
        x.bearer(60, 300, 0, 0);
        int[] was = {1000, 999, 901, 900, 7};
        for (int b = 0; b < 5; b++) {
            x.set(10, b, was[b]);
        }
        Edges.tell(x, 1, "tire 99;");
        Edges.tell(x, 2, "walk 1;");
        x.paces(1);
        tired("99 more, not who stands aside", x, 1000, 1000, 1000, 999, 7);
    }

    @Words(at = "Terms 3", value = "E of the first line whose B is so, or that has none (none: bears by 20)")
    static void noLineTires() {
        for (String law : new String[] {"", "tire 9 when 1 = 2;", "tire 9 when tall > 80; tire 8 when tall < 40;"}) {
            for (int each : new int[] {1, 19, 20, 39, 40, 249}) {
                SixCarry x = Edges.even(2, 4 * each);
                Edges.tell(x, 1, law);
                Edges.tell(x, 2, "walk 1;");
                x.paces(1);
                Check.same(law + ": " + each + " by 20", x.of(3, 4), each / 20);
            }
        }
        SixCarry x = Edges.even(2, 400);
        Edges.tell(x, 1, "tire 1 when right = 1; tire 2 when right = 1; tire 3; tire 4;");
        Edges.tell(x, 2, "walk 1;");
        x.paces(1);
        tired("the first line", x, 3, 1, 3, 1);
        SixCarry y = Edges.even(2, 400);
        Edges.tell(y, 1, "tire 1 when right = 1; tire 2 when pair = 1;");
        Edges.tell(y, 2, "walk 1;");
        y.paces(1);
        tired("none for one of them", y, 5, 1, 2, 1);
    }

    @Words(at = "Terms 3", value = "held to 0 .. 99")
    static void tiringHeld() {
        String[] e = {"0", "98", "99", "100", "9999", "9999 * 9999", "0 - 1", "0 - 9999", "9999 * 9999 * 22"};
        int[] due = {0, 98, 99, 99, 99, 99, 0, 0, 0};
        for (int i = 0; i < e.length; i++) {
            SixCarry x = Edges.even(2, 100);
            x.set(10, 0, 5);
            Edges.tell(x, 1, "tire " + e[i] + ";");
            Edges.tell(x, 2, "walk 1;");
            x.paces(1);
            tired(e[i], x, 5 + due[i], due[i]);
        }
    }

    @Words(at = "Terms 3", value = "all asked ahead of that: bears, can: pounds")
    static void askedAhead() {
        SixCarry x = Edges.crew(2, 40, Edges.all(4, 60), Edges.all(4, 50));
        x.set(2, 0, 1);
        Edges.tell(x, 1, "tire can when right = 0; tire bears;");
        Edges.tell(x, 2, "walk 9;");
        x.paces(1);
        tired("what they CAN, what they bear", x, 50, 10, 50, 10);
        x.paces(1);
        // 50 times 950 by 1000 is 47.5.
        tired("what they CAN, downwards", x, 97, 20, 97, 20);
        Edges.tell(x, 1, "tire tired + 1;");
        x.set(10, 0, 0);
        x.set(10, 3, 7);
        int[] first = {1, 3, 7, 15, 31, 63, 127, 226};
        int[] last = {15, 31, 63, 127, 226, 325, 424, 523};
        for (int i = 0; i < first.length; i++) {
            Edges.tell(x, 2, "walk 9;");
            x.paces(1);
            Check.same("TIRED and one more, 99 at most", x.of(0, 4), first[i]);
            Check.same("each by his own", x.of(3, 4), last[i]);
        }
        SixCarry y = Edges.crew(2, 3, Edges.all(4, 60), Edges.row(0, 300, 300, 300));
        y.set(2, 0, 1);
        Edges.tell(y, 1, "tire 10 + bears - can when can < 99; tire 20 when bears = 0; tire 30 when can = 300;");
        Edges.tell(y, 2, "walk 9;");
        y.paces(1);
        tired("one pound more than he CAN, and none", y, 11, 30, 30, 20);
    }

    @Words(at = "Terms 3", value = "gravel: 1 on it, else 0; sway: SWAY.")
    static void gravelAndSway() {
        SixCarry x = new SixCarry();
        x.set(1, 0, 2);
        x.set(0, 0, 4);
        x.set(2, 0, 1);
        x.set(3, 0, 100);
        for (int b = 0; b < 4; b++) {
            x.bearer(60, 300, b % 2, 0);
            x.place(b, b);
        }
        Edges.tell(x, 1, "tire gravel * 50 + sway;");
        Edges.tell(x, 2, "walk 1; walk 1 gravel; walk 1 up 1 gravel; walk 1; gate 1;");
        int tired = 0;
        int[] due = {0, 54, 58, 12, 16};
        for (int more : due) {
            x.paces(1);
            tired += more;
            Check.same("gravel, and SWAY as it was ahead", x.of(3, 4), tired);
        }
    }

    /** By hand, each with his FOOT; after each pace SWAY is as due. */
    private static void swaying(int loose, int[] foot, int... due) {
        SixCarry x = new SixCarry();
        x.set(1, 0, foot.length / 2);
        x.set(0, 0, 8);
        x.set(2, 0, 1);
        x.set(3, 0, loose);
        for (int b = 0; b < foot.length; b++) {
            x.bearer(60, 300, foot[b], 0);
            x.place(b, b);
        }
        Edges.tell(x, 2, "walk 200;");
        for (int i = 0; i < due.length; i++) {
            x.paces(1);
            Check.same("SWAY with LOOSE " + loose + " after " + (i + 1), x.look(5), due[i]);
        }
    }

    @Words(at = "Terms 3", value = "(d) SWAY is SWAY times LOOSE by 100, and how many who HOLD step wrongly")
    static void swayTimesLoose() {
        int[] one = {0, 0, 1, 0};
        swaying(0, one, 1, 1, 1);
        swaying(50, one, 1, 1, 1);
        swaying(99, one, 1, 1, 1);
        swaying(100, one, 1, 2, 3, 4);
        swaying(150, one, 1, 2, 4, 7, 11);
        swaying(200, one, 1, 3, 7, 15);
        int[] three = {0, 1, 0, 0};
        swaying(50, three, 3, 4, 5, 5);
        swaying(99, three, 3, 5, 7, 9);
        swaying(1, three, 3, 3, 3);
    }

    @Words(at = "Terms 3", value = "(FOOT 0 on the left, 1 on the right: not the inside foot)")
    static void wrongSteps() {
        swaying(0, Edges.row(1, 0, 1, 0, 1, 0, 1, 0), 0, 0);
        swaying(0, Edges.row(0, 1, 0, 1, 0, 1, 0, 1), 8, 8);
        for (int b = 0; b < 4; b++) {
            int[] foot = {1, 0, 1, 0};
            foot[b] = 1 - foot[b];
            swaying(0, foot, 1);
        }
        SixCarry x = new SixCarry();
        x.set(1, 0, 2);
        x.set(0, 0, 8);
        x.set(3, 0, 0);
        for (int b = 0; b < 5; b++) {
            x.bearer(60, 300, b % 2, 0);
            if (b < 4) {
                x.place(b, b);
            }
        }
        Edges.tell(x, 2, "walk 1; gate 2; walk 2;");
        x.paces(1);
        Check.same("all four, not who stands aside", x.look(5), 4);
        x.paces(1);
        Check.same("those who HOLD", x.look(5), 2);
        x.paces(1);
        Check.same("those who HOLD", x.look(5), 2);
        x.place(3, NONE);
        x.paces(1);
        Check.same("nobody steps where nobody is", x.look(5), 3);
    }

    @Words(at = "Terms 3", value = "(999 at most)")
    static void mostSway() {
        swaying(200, Edges.row(0, 0, 1, 0), 1, 3, 7, 15, 31, 63, 127, 255, 511, 999, 999, 999);
        swaying(200, Edges.row(0, 1, 0, 1, 0, 1, 0, 1), 8, 24, 56, 120, 248, 504, 999, 999);
        SixCarry x = Edges.crew(2, 8, Edges.all(4, 60), Edges.all(4, 300));
        x.place(0, 1);
        x.place(1, NONE);
        x.set(3, 0, 100);
        Edges.tell(x, 1, "tire 0;");
        Edges.tell(x, 2, "walk 200;".repeat(6));
        for (int i = 0; i < 4; i++) {
            x.paces(200);
        }
        x.paces(198);
        Check.same("one a pace", x.look(5), 998);
        x.paces(1);
        Check.same("999", x.look(5), 999);
        x.paces(1);
        Check.same("999 at most", x.look(5), 999);
    }

    @Words(at = "Terms 3", value = "PACE is one more.")
    static void onePaceMore() {
        SixCarry x = walking(2, "rest 1; walk 2; gate 2; change 0 to 1; walk 1;");
        for (int pace = 1; pace <= 5; pace++) {
            x.paces(1);
            Check.same("PACE", x.look(3), pace);
        }
        x.set(0, 0, 999);
        x.set(9, 1, 0);
        Edges.tell(x, 2, "walk 2;");
        x.paces(2);
        Check.same("PACE if it FALLS", x.look(3), 7);
        Check.same("FALLS", x.look(4), 2);
        x.undo();
        Check.same("one less", x.look(3), 6);
    }

    @Words(at = "Terms 3", value = "THE BOOK (150 lines; no more then)")
    static void fullBook() {
        SixCarry x = falling(0);
        x.paces(149);
        Check.same("lines", x.look(6), 149);
        booked(x, 148, 148, 0, 0, NONE);
        Edges.tell(x, 2, "rest 7; change 0 to 1; walk 5; rest 8;");
        x.paces(1);
        Check.same("one of three lines", x.look(6), 150);
        booked(x, 149, 149, 3, 7, NONE);
        Check.same("no line 150", x.book(150, 0), NONE - 1);
        Check.same("it fell all the same", x.look(4), 150);
        Check.same("he changed all the same", x.of(1, 6), 0);
        x.paces(4);
        Check.same("no more", x.look(6), 150);
        booked(x, 149, 149, 3, 7, NONE);
        booked(x, 0, 0, 0, 0, NONE);
        for (int i = 0; i < 5; i++) {
            x.undo();
        }
        Check.same("a line goes back", x.look(6), 149);
        Check.same("no line 149", x.book(149, 0), NONE - 1);
        x.paces(1);
        booked(x, 149, 149, 3, 7, NONE);
    }

    @Words(at = "Terms 3", value = "1 a slip (if somebody was there)")
    static void slipWhereNobodyIs() {
        SixCarry x = walking(2, "walk 1; walk 1;");
        x.place(2, NONE);
        x.set(5, 0, 1000);
        int start = stateFor(2, 4);
        x.state(start);
        x.paces(1);
        Check.same("two DRAWS", x.look(7), Edges.drawn(Edges.drawn(start)));
        Check.same("nobody was there", x.look(6), 0);
        tired("all others HOLD", x, 1, 1, 0, 1);
        x.place(2, 2);
        x.state(start);
        x.paces(1);
        Check.same("somebody was there", x.look(6), 1);
        booked(x, 0, 1, 1, 2, 2);
    }

    @Words(at = "Terms 3", value = "the PLACE (1, 2), minutes (3), 0 (0); the BEARER (1, 2; else NONE)")
    static void bookLines() {
        SixCarry x = walking(2, "rest 99; change 3 to 0; walk 1; change 0 to 3; rest 1; walk 1; rest 2;");
        x.set(5, 0, 1000);
        x.set(0, 0, 999);
        for (int b = 0; b < 4; b++) {
            x.set(9, b, 0);
        }
        x.state(stateFor(3, 4));
        x.paces(1);
        Check.same("lines", x.look(6), 4);
        booked(x, 0, 0, 3, 99, NONE);
        booked(x, 1, 0, 2, 3, 0);
        booked(x, 2, 0, 1, 3, 0);
        booked(x, 3, 0, 0, 0, NONE);
        x.set(5, 0, 0);
        x.paces(1);
        Check.same("lines", x.look(6), 8);
        booked(x, 4, 1, 2, 0, 3);
        booked(x, 5, 1, 3, 1, NONE);
        booked(x, 6, 1, 0, 0, NONE);
        booked(x, 7, 2, 3, 2, NONE);
    }

    @Words(at = "Promise 10", value = "PACES of A WAY (1 .. 200), as long as there are some")
    static void asLongAsThereAreSome() {
        SixCarry x = walking(2, "walk 200; gate 51;");
        Check.same("200", x.paces(200), 200);
        Check.same("1", x.paces(1), 1);
        Check.same("50 of 200", x.paces(200), 50);
        Check.same("none of 200", x.paces(200), 0);
        Check.same("none of 1", x.paces(1), 0);
        Check.same("PACE", x.look(3), 251);
        Check.same("what can be undone", x.look(11), 6);
        SixCarry y = walking(2, "walk 2;");
        Check.same("as many as there are", y.paces(2), 2);
        SixCarry z = new SixCarry();
        Check.same("no way", z.paces(200), 0);
    }

    @Words(at = "Promise 10", value = "(what stands behind the last one of all is done with it; without one nothing is done)")
    static void behindTheLast() {
        SixCarry x = walking(2, "walk 2; rest 1; cloth 0 in 1; change 1 to 0; rest 2;");
        x.set(10, 3, 900);
        x.set(4, 0, 10);
        x.paces(1);
        Check.same("not yet", x.at(0, 1), 0);
        x.paces(1);
        Check.same("the CLOTH", x.at(0, 1), 1);
        Check.same("the change", x.of(0, 6), 1);
        Check.same("the rests", x.of(3, 4), 902 - 30);
        Check.same("three lines", x.look(6), 3);
        Check.same("nothing is left", x.look(10), 0);
        Edges.refused(x, "not once more", 0, () -> x.paces(200));
        SixCarry y = walking(2, "rest 1; cloth 0 in 1; change 1 to 0;");
        y.set(10, 3, 900);
        Edges.refused(y, "without a pace nothing is done", 0, () -> y.paces(200));
        Check.same("all lines are left", y.look(10), 3);
        Check.same("in thought neither", y.goes(2), 900);
        SixCarry z = walking(2, "rest 1; gate 1; rest 1;");
        z.paces(1);
        Check.same("the same with a gate", z.look(10), 0);
    }

    @Words(at = "Promise 10", value = "NONE, and nothing is done, if one can't be")
    static void pacesCannotBe() {
        SixCarry x = walking(2, "rest 1; walk 200;");
        x.set(10, 0, 500);
        for (int n : new int[] {LEAST, -200, -1, 0, 201, 202, GREATEST, GREATEST - 99999}) {
            Edges.refused(x, "paces " + n, NONE, () -> x.paces(n));
        }
        Check.same("one can be", x.paces(1), 1);
        Check.same("200 can be", x.paces(200), 199);
        Edges.refused(x, "with no way left", NONE, () -> x.paces(201));
    }

    /** It takes more calls than an object is promised for; within those PACE and n can't come above 99999. */
    @Words(at = "Promise 10", value = "or PACE and n is above 99999.")
    static void pacesTooFar() {
        SixCarry x = new SixCarry();
        while (x.look(3) < 99800) {
            if (x.look(10) == 0) {
                Edges.tell(x, 2, "walk 200;".repeat(40));
            }
            x.paces(200);
        }
        Edges.tell(x, 2, "walk 200; walk 200;");
        Edges.refused(x, "99800 and 200", NONE, () -> x.paces(200));
        Check.same("99800 and 199", x.paces(199), 199);
        Check.same("PACE", x.look(3), 99999);
        Edges.refused(x, "99999 and 1", NONE, () -> x.paces(1));
        Edges.tell(x, 2, "");
        Edges.refused(x, "though there is no way", NONE, () -> x.paces(1));
    }

    @Words(at = "Promise 13", value = "NONE - 1 if there is none such, or another what.")
    static void bookNoneSuch() {
        SixCarry x = walking(2, "rest 5; change 2 to 1; walk 1;");
        for (int what = 0; what < 4; what++) {
            Check.same("an empty book", x.book(0, what), NONE - 1);
        }
        x.paces(1);
        booked(x, 0, 0, 3, 5, NONE);
        booked(x, 1, 0, 2, 2, 1);
        for (int i : new int[] {LEAST, -1, 2, 149, 150, GREATEST}) {
            for (int what = 0; what < 4; what++) {
                Check.same("line " + i, x.book(i, what), NONE - 1);
            }
        }
        for (int what : new int[] {LEAST, -1, 4, 5, GREATEST}) {
            Check.same("what " + what, x.book(0, what), NONE - 1);
            Check.same("what " + what, x.book(1, what), NONE - 1);
        }
    }

    @Words(at = "Promise 30", value = "UNDO: true; false if there is nothing.")
    static void undoNothing() {
        SixCarry x = walking(2, "walk 9;");
        Edges.refused(x, "no pace yet", 0, () -> x.undo() ? 1 : 0);
        x.paces(2);
        Check.yes("the second", x.undo());
        Check.yes("the first", x.undo());
        Edges.refused(x, "no third", 0, () -> x.undo() ? 1 : 0);
        x.paces(1);
        x.set(0, 0, 50);
        Edges.refused(x, "it is forgotten", 0, () -> x.undo() ? 1 : 0);
    }

    @Words(at = "Terms 4", value = "6 are kept")
    static void sixAreKept() {
        for (int paces = 1; paces <= 20; paces++) {
            SixCarry x = walking(2, "walk 200;");
            x.paces(paces);
            for (int i = 1; i <= Math.min(paces, 6); i++) {
                Check.yes("undo", x.undo());
                Check.same("PACE", x.look(3), paces - i);
                tired("as it was", x, paces - i, paces - i);
            }
            Check.no("no more", x.undo());
            Check.same("on again", x.paces(4), 4);
            Check.same("what can be undone", x.look(11), 4);
            x.paces(5);
            Check.same("what can be undone", x.look(11), 6);
        }
    }

    @Words(at = "Terms 4", value = "UNDO: the latest PACE (what was done ahead of it, since the one before, too) not undone yet goes back (STATE, THE BOOK, too)")
    static void undoGoesBack() {
        SixCarry x = walking(2, "");
        x.bearer(60, 300, 0, 0);
        Edges.tell(x, 2, "walk 2; rest 2; change 0 to 4; cloth 1 in 3; walk 1; gate 3; rest 3; cloth 1 in 2;");
        x.set(5, 0, 700);
        x.set(4, 0, 1);
        for (int b = 0; b < 5; b++) {
            // Four of them bear 100, two don't.
            x.set(9, b, 40);
            x.set(10, b, 200 + b);
        }
        String[] was = new String[6];
        for (int i = 0; i < 6; i++) {
            was[i] = Edges.look(x);
            x.paces(1);
        }
        String end = Edges.look(x);
        Check.yes("some of them fell", x.look(4) > 2 && x.look(6) > 6);
        for (int i = 5; i >= 0; i--) {
            Check.yes("undo", x.undo());
            Check.yes("as it was ahead of pace " + i, was[i].equals(Edges.look(x)));
        }
        x.paces(6);
        Check.yes("the same again", end.equals(Edges.look(x)));
        for (int i = 5; i >= 0; i--) {
            x.undo();
            Check.same("paces that are left", x.goes(0), 6 - i);
        }
        x.paces(1);
        x.undo();
        Check.same("a line that was begun begins anew", x.goes(0), 6);
    }

    @Words(at = "Terms 4", value = "whatever else is told but LAWS, SEEN (the taking of THE IMAGE does not) forgets them.")
    static void whatForgets() {
        for (int i = 0; i < 36; i++) {
            SixCarry x = walking(2, "walk 9;");
            x.image(true);
            x.paces(3);
            boolean forgets = i < 18;
            tell(x, i);
            Check.same(i + ": what can be undone", x.look(11), forgets ? 0 : 3);
            Check.same(i + ": undo", x.undo() ? 1 : 0, forgets ? 0 : 1);
        }
    }

    private static void tell(SixCarry x, int i) {
        switch (i) {
            case 0: x.state(x.look(7)); break;
            case 1: x.bearer(60, 1, 0, 0); break;
            case 2: x.set(0, 0, 100); break;
            case 3: x.set(1, 0, 2); break;
            case 4: x.set(2, 0, 1); break;
            case 5: x.set(3, 0, 50); break;
            case 6: x.set(4, 0, 100); break;
            case 7: x.set(5, 0, 0); break;
            case 8: x.set(6, 0, 0); break;
            case 9: x.set(7, 0, 0); break;
            case 10: x.set(8, 0, 1); break;
            case 11: x.set(9, 0, 300); break;
            case 12: x.set(10, 0, 0); break;
            case 13: x.place(0, 0); break;
            case 14: x.place(3, NONE); break;
            case 15: Tape.text(x, 2, "walk 9;"); break;
            case 16: Tape.text(x, 2, ""); break;
            case 17: x.image(false); break;
            case 18: Tape.text(x, 0, "bear 1;"); break;
            case 19: Tape.text(x, 1, "tire 1;"); break;
            case 20: x.seen(0, 5); break;
            case 21: x.seen(0, NONE); break;
            case 22: x.image(true); break;
            default: refuse(x, i); break;
        }
    }

    /** Nothing is told by a call that is refused, nor by one that asks. */
    private static void refuse(SixCarry x, int i) {
        switch (i) {
            case 23: x.bearer(0, 0, 0, 0); break;
            case 24: x.set(0, 0, 1000); break;
            case 25: x.set(1, 0, 5); break;
            case 26: x.set(6, 4, 0); break;
            case 27: x.set(10, 0, 1001); break;
            case 28: x.set(11, 0, 0); break;
            case 29: x.place(4, 0); break;
            case 30: x.place(0, 4); break;
            case 31: Tape.text(x, 2, "walk 9; foo"); break;
            case 32: x.text(3); break;
            case 33: x.paces(0); break;
            case 34: x.goes(0); x.rests(); x.far(0); x.helps(0); x.order(0); x.dearest(); x.cloths(0); x.fits(0); x.line(); break;
            default: x.feed(0, 0, 0, 0, 0); x.end(0); x.fault(0); break;
        }
    }

    @Words(at = "Promise 31", value = "true; false if there is none.")
    static void imageNone() {
        SixCarry x = walking(2, "walk 9;");
        x.paces(3);
        Edges.refused(x, "none was taken", 0, () -> x.image(false) ? 1 : 0);
        Check.yes("taken", x.image(true));
        Check.yes("gone back to", x.image(false));
    }

    @Words(at = "Terms 4", value = "and what can be undone (nothing then)")
    static void imageForgets() {
        SixCarry x = walking(2, "walk 9;");
        x.paces(3);
        x.image(true);
        Check.same("the taking forgets nothing", x.look(11), 3);
        x.paces(1);
        x.image(false);
        Check.same("nothing can be undone", x.look(11), 0);
        Check.no("nothing", x.undo());
        Check.same("PACE", x.look(3), 3);
        x.paces(1);
        Check.yes("the latest", x.undo());
        Check.same("PACE", x.look(3), 3);
    }

    /** Another object in another state in every way, with THE BOOK full and a way that is begun. */
    private static void turnAround(SixCarry x) {
        x.set(1, 0, 4);
        while (x.bearer(80, 300, 1, 1) != NONE) {
            x.place(7, x.look(2) - 1);
        }
        for (int what = 0; what < 6; what++) {
            x.set(what, 0, what == 0 ? 999 : what == 1 ? 4 : 1);
        }
        for (int i = 0; i < 8; i++) {
            x.set(6, i, 5);
            x.set(7, i, 1);
            x.set(8, i, 9);
            x.set(9, i, 1);
            x.set(10, i, 999);
            x.seen(i, 999);
            x.place(i, 7 - i);
        }
        x.state(77);
        Edges.tell(x, 0, "bear 7; bear 8; bear 9;");
        Edges.tell(x, 1, "tire 7; tire 8; tire 9;");
        Edges.tell(x, 2, "rest 9;".repeat(38) + "walk 200;");
        x.paces(5);
        x.paces(190);
    }

    @Words(at = "Terms 4", value = "THE IMAGE: all that is and was told but the TAPE, fault()")
    static void imageOfAll() {
        SixCarry x = walking(2, "rest 1; walk 1; gate 4; rest 1;");
        x.seen(1, 0);
        x.set(7, 2, 1);
        x.paces(3);
        x.undo();
        x.image(true);
        String was = Edges.look(x).replaceFirst("^((\\S+ ){11})2 ", "$10 ");
        int fits = x.fits(0);
        turnAround(x);
        Check.same("a FAULT", Tape.text(x, 2, "walk 0;"), NONE);
        Tape.feed(x, "bear 1; bear");
        Check.yes("gone back to", x.image(false));
        Check.yes("all is as it was", was.equals(Edges.look(x)));
        Check.same("the laws", x.fits(0), fits);
        Check.same("fault() is not of it", x.fault(0), 2);
        Check.same("nor its place", x.fault(1), 5);
        Check.no("the TAPE is not of it", x.end(13));
        Check.yes("the TAPE is not of it", x.end(7));
        Check.same("the TAPE is not of it", x.text(0), 1);
        x.paces(1);
        tired("the gate goes on: pair 0 still", x, 1, 1, 3, 3);
        x.paces(1);
        tired("then pair 1", x, 2, 2, 3, 3);
        SixCarry first = new SixCarry();
        String atFirst = Edges.look(first);
        first.image(true);
        turnAround(first);
        first.image(false);
        Check.yes("of a new object", atFirst.equals(Edges.look(first)));
    }

    @Words(at = "Terms 4", value = "as it was when it was taken; gone back to it may be more than once.")
    static void imageMoreThanOnce() {
        SixCarry x = walking(2, "rest 4; change 2 to 3; walk 1; change 0 to 1; walk 9;");
        x.paces(1);
        x.image(true);
        String was = Edges.look(x).replaceFirst("^((\\S+ ){11})1 ", "$10 ");
        x.undo();
        Edges.tell(x, 2, "rest 9; rest 8; rest 7; walk 1;");
        x.paces(1);
        x.image(false);
        Check.yes("with THE BOOK as it was", was.equals(Edges.look(x)));
        for (int i = 0; i < 3; i++) {
            x.paces(3);
            turnAround(x);
            Check.yes("gone back to", x.image(false));
            Check.yes("as it was when it was taken", was.equals(Edges.look(x)));
            Check.yes("at once again", x.image(false));
            Check.yes("as it was when it was taken", was.equals(Edges.look(x)));
        }
        x.paces(2);
        x.image(true);
        x.paces(3);
        x.image(false);
        Check.same("the latest that was taken", x.look(3), 3);
    }
}
