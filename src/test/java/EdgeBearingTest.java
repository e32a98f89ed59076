/** The edges that "Terms", 2. TEXTS name of TOP, the facts of a law and BEARS, and promises 14 and 15. */
public final class EdgeBearingTest {
    private static final int NONE = SixCarry.NONE;
    private static final int LEAST = Integer.MIN_VALUE;
    private static final int GREATEST = Integer.MAX_VALUE;

    private EdgeBearingTest() { }

    public static void main(String[] args) {
        Edges.run(EdgeBearingTest.class);
    }

    /** All of one height. */
    private static SixCarry strong(int pairs, int pounds, int... strength) {
        return Edges.crew(pairs, pounds, Edges.all(strength.length, 60), strength);
    }

    /** Two pairs of STRENGTH 300 under a law. */
    private static void shared(String law, int pounds, int... due) {
        SixCarry x = strong(2, pounds, 300, 300, 300, 300);
        Edges.tell(x, 0, law);
        Edges.borne(law, x, 0, due);
    }

    /** All of one SHARE, who CAN differently. */
    private static void parted(int pounds, int[] can, int... due) {
        SixCarry x = strong(can.length / 2, pounds, can);
        Edges.borne(pounds + " pounds", x, 0, due);
        x.set(2, 0, 1);
        Edges.borne(pounds + " pounds by hand", x, 0, due);
    }

    @Words(at = "Terms 2", value = "On a slope s (-9 .. 9, up: above 0)")
    static void slopes() {
        SixCarry x = strong(2, 100, 300, 300, 300, 300);
        Edges.borne("up 9", x, 9, 50, 50, 0, 0);
        Edges.borne("up 1", x, 1, 50, 50, 0, 0);
        Edges.borne("the level", x, 0, 25, 25, 25, 25);
        Edges.borne("down 1", x, -1, 0, 0, 50, 50);
        Edges.borne("down 9", x, -9, 0, 0, 50, 50);
        for (int slope : new int[] {LEAST, -11, -10, 10, 11, GREATEST}) {
            Check.same("loads on " + slope, x.loads(0, slope), NONE);
            Check.same("idle on " + slope, x.idle(slope, 0), NONE);
            Check.same("far on " + slope, x.far(slope), NONE);
        }
    }

    @Words(at = "Terms 2", value = "TOP of who is at a PLACE is TALL and CLOTH and s for each pair behind his.")
    static void pairsBehind() {
        SixCarry x = strong(4, 100, 300, 300, 300, 300, 300, 300, 300, 300);
        for (int p = 1; p < 8; p += 2) {
            x.place(p, NONE);
        }
        Edges.tell(x, 0, "bear over + 1;");
        Edges.borne("three pairs are behind the first, none behind the last", x, 1, 40, NONE, 30, NONE, 20, NONE, 10);
        Edges.borne("down", x, -1, 10, NONE, 20, NONE, 30, NONE, 40);
        Edges.borne("up 9: SHARES 28, 19, 10 and 1", x, 9, 49, NONE, 33, NONE, 17, NONE, 1);
        x.set(6, 6, 3);
        Edges.borne("3 of CLOTH: SHARES 3, 2, 1 and 3", x, 1, 34, NONE, 22, NONE, 11, NONE, 33);
        SixCarry y = strong(3, 60, 300, 300, 300, 300, 300);
        Edges.tell(y, 0, "bear over + 1 when right = 0; bear 0;");
        Edges.borne("three pairs", y, 1, 30, 0, 20, 0, 10);
        SixCarry z = strong(2, 60, 300, 300, 300, 300);
        Edges.tell(z, 0, "bear over + 1;");
        Edges.borne("two pairs", z, 1, 20, 20, 10, 10);
    }

    @Words(at = "Terms 2", value = "over: TOP less the least TOP of all who HOLD (who are at a PLACE and do not let go).")
    static void overWhoHold() {
        SixCarry x = Edges.crew(2, 90, Edges.row(50, 50, 60, 61, 40), Edges.all(5, 300));
        Edges.borne("over 0, 0, 10 and 11; who stands aside is not asked", x, 0, 0, 0, 43, 47);
        Edges.tell(x, 1, "tire bears;");
        Edges.tell(x, 2, "gate 2;");
        x.paces(1);
        Check.same("of two that are left the lower one is over by 0", x.of(2, 4), 0);
        Check.same("the other one by 1", x.of(3, 4), 90);
        x.paces(1);
        Check.same("both are over by 0", x.of(0, 4), 45);
        Check.same("both are over by 0", x.of(1, 4), 45);
        x.place(0, NONE);
        x.place(1, NONE);
        Edges.borne("nobody is there", x, 0, NONE, NONE, 0, 90);
        x.place(3, NONE);
        Edges.borne("one alone", x, 0, NONE, NONE, 90, NONE);
    }

    @Words(at = "Terms 2", value = "cloth, pair: of the PLACE; right: 1 on the right, else 0")
    static void factsOfAPlace() {
        SixCarry x = strong(4, 360, 300, 300, 300, 300, 300, 300, 300, 300);
        Edges.tell(x, 0, "bear pair * 2 + right + 1;");
        Edges.borne("pair 0 to 3", x, 0, 10, 20, 30, 40, 50, 60, 70, 80);
        x.set(6, 7, 6);
        Edges.tell(x, 0, "bear cloth;");
        // 300 is what he CAN, and nobody else has a SHARE.
        x.set(0, 0, 300);
        Check.same("CLOTH 6", x.idle(0, 0), 127);
        Check.same("he CAN", x.loads(7, 0), 300);
        x.set(0, 0, 301);
        Check.same("he can't", x.loads(7, 0), NONE);
    }

    @Words(at = "Terms 2", value = "tall, strength, knee, tired: his")
    static void factsOfABearer() {
        SixCarry x = new SixCarry();
        x.bearer(40, 300, 0, 0);
        x.bearer(80, 300, 1, 1);
        x.place(0, 0);
        x.place(1, 1);
        String[] law = {"bear tall;", "bear knee;", "bear strength;", "bear tired;"};
        int[] left = {40, 0, 80, 30};
        for (int i = 0; i < 4; i++) {
            x.set(0, 0, 120);
            x.set(9, 0, i == 2 ? 200 : 300);
            x.set(9, 1, i == 2 ? 100 : 300);
            x.set(10, 0, i == 3 ? 50 : 0);
            x.set(10, 1, i == 3 ? 150 : 0);
            Edges.tell(x, 0, law[i]);
            Edges.borne(law[i], x, 0, left[i], 120 - left[i]);
        }
        x.set(10, 0, 0);
        x.set(10, 1, 1000);
        Edges.borne("TIRED 0 and 1000: who has the SHARE CAN nothing", x, 0, NONE, NONE);
        Edges.tell(x, 0, "bear strength;");
        x.set(10, 1, 500);
        x.set(9, 0, 300);
        x.set(9, 1, 300);
        Edges.borne("as strong as he is, TIRED or not", x, 0, 60, 60);
        x.set(9, 0, 0);
        x.set(10, 1, 0);
        Edges.borne("STRENGTH 0", x, 0, 0, 120);
    }

    @Words(at = "Terms 2", value = "up, down: s above, below 0 (without sign), else 0")
    static void upAndDown() {
        SixCarry x = strong(2, 100, 300, 300, 300, 300);
        Edges.tell(x, 0, "bear 1 when up=9 and down=0 and right=1; bear 1 when up=0 and down=9 and pair=1;"
            + "bear 1 when up=0 and down=0 and pair+right=0; bear 0;");
        Edges.borne("up 9", x, 9, 0, 50, 0, 50);
        Edges.borne("down 9", x, -9, 0, 0, 50, 50);
        Edges.borne("the level", x, 0, 100, 0, 0, 0);
        Edges.borne("up 8", x, 8, 25, 25, 25, 25);
        Edges.borne("down 8", x, -8, 25, 25, 25, 25);
        Edges.tell(x, 0, "bear up when right = 1; bear down;");
        Edges.borne("up 1", x, 1, 0, 50, 0, 50);
        Edges.borne("down 1", x, -1, 50, 0, 50, 0);
    }

    @Words(at = "Terms 2", value = "E of the first line of BEARING whose B is so, or that has none (none: by HANDS 1, else over)")
    static void firstLineThatIsSo() {
        shared("bear 1 when right = 1; bear 4 when right = 1; bear 4;", 100, 40, 10, 40, 10);
        shared("bear 1; bear 4 when right = 1; bear 4;", 100, 25, 25, 25, 25);
        shared("bear 4 when 1 = 2; bear 1 when right = 1; bear 4 when 1 = 1;", 100, 40, 10, 40, 10);
        for (String law : new String[] {"", "bear 9 when 1 = 2;", "bear 9 when tall > 80; bear 9 when tall < 40;"}) {
            SixCarry x = Edges.crew(2, 90, Edges.row(60, 61, 60, 62), Edges.all(4, 300));
            Edges.tell(x, 0, law);
            Edges.borne("none, on shoulders: " + law, x, 0, 0, 30, 0, 60);
            x.set(2, 0, 1);
            Edges.borne("none, by hand: " + law, x, 0, 23, 23, 22, 22);
        }
        SixCarry x = Edges.crew(2, 90, Edges.row(60, 61, 60, 62), Edges.all(4, 300));
        Edges.tell(x, 0, "bear 5 when tall = 60;");
        Edges.borne("none for some alone: SHARES 5, 1, 5 and 2", x, 0, 35, 7, 35, 13);
        x.set(2, 0, 1);
        x.set(0, 0, 120);
        Edges.borne("none for some alone, by hand: SHARES 5, 1, 5 and 1", x, 0, 50, 10, 50, 10);
    }

    @Words(at = "Terms 2", value = "held to 0 .. 999")
    static void heldToBounds() {
        // 999 and 333 are three parts and one.
        for (String e : new String[] {"999", "1000", "9999", "9999 * 9999"}) {
            SixCarry x = strong(2, 148, 300, 300);
            Edges.tell(x, 0, "bear " + e + " when right = 1; bear 333;");
            Edges.borne(e + " on the right", x, 0, 37, 111);
            Edges.tell(x, 0, "bear " + e + " when right = 0; bear 333;");
            Edges.borne(e + " on the left", x, 0, 111, 37);
        }
        SixCarry x = strong(2, 148, 300, 300);
        Edges.tell(x, 0, "bear 998 when right = 1; bear 333;");
        Edges.borne("998 of 1331", x, 0, 38, 110);
        shared("bear 0 - 1 when right = 0; bear 1;", 100, 0, 50, 0, 50);
        shared("bear 0 - 9999 when right = 0; bear 1;", 100, 0, 50, 0, 50);
        shared("bear 0 when right = 0; bear 1;", 100, 0, 50, 0, 50);
    }

    @Words(at = "Terms 2", value = "are all 0, it is 1 of each.")
    static void allNought() {
        shared("bear 0;", 100, 25, 25, 25, 25);
        shared("bear 0 - 9;", 103, 26, 26, 26, 25);
        shared("bear 1 when pair = 1 and right = 1; bear 0;", 100, 0, 0, 0, 100);
        shared("", 100, 25, 25, 25, 25);
        SixCarry x = strong(2, 100, 300);
        Edges.borne("one alone", x, 0, 100, NONE, NONE, NONE);
        x.bearer(60, 300, 0, 0);
        x.place(3, 1);
        Edges.borne("of those alone who are there", x, 0, 50, NONE, NONE, 50);
    }

    @Words(at = "Terms 2", value = "Then POUNDS are parted among those with a SHARE above 0")
    static void shareAboveNought() {
        shared("bear 0 when pair + right = 0; bear 1;", 100, 0, 34, 33, 33);
        SixCarry x = strong(2, 91, 300, 30, 30, 30);
        Edges.tell(x, 0, "bear 0 when pair + right = 0; bear 1;");
        Edges.borne("nothing of what is too much", x, 0, 0, 31, 30, 30);
        x.set(0, 0, 93);
        Edges.borne("he takes nothing over", x, 0, NONE, NONE, NONE, NONE);
    }

    @Words(at = "Terms 2", value = "each one by his SHARE of all SHARES, downwards")
    static void partedDownwards() {
        shared("bear 1 when right = 0; bear 2;", 5, 1, 2, 1, 1);
        shared("bear pair * 2 + right + 1;", 1, 1, 0, 0, 0);
        shared("bear pair * 2 + right + 1;", 9, 1, 2, 3, 3);
        shared("bear 999;", 999, 250, 250, 250, 249);
        shared("bear 999;", 1, 1, 0, 0, 0);
    }

    @Words(at = "Terms 2", value = "if some would bear more than they CAN (STRENGTH times 1000 less TIRED, by 1000), all these bear what they CAN")
    static void moreThanTheyCan() {
        parted(100, Edges.row(25, 25, 25, 25), 25, 25, 25, 25);
        parted(100, Edges.row(24, 300, 300, 300), 24, 26, 25, 25);
        parted(100, Edges.row(300, 300, 300, 24), 26, 25, 25, 24);
        parted(100, Edges.row(10, 20, 300, 300), 10, 20, 35, 35);
        parted(100, Edges.row(0, 0, 0, 300), 0, 0, 0, 100);
        // 0 downwards is not more than 0.
        parted(3, Edges.row(0, 0, 0, 0), 1, 1, 1, 0);
        SixCarry x = strong(2, 100, 25, 300, 300, 300);
        x.set(10, 0, 1);
        Edges.borne("he CAN 24, downwards", x, 0, 24, 26, 25, 25);
        x.set(9, 0, 26);
        Edges.borne("he CAN 25, downwards", x, 0, 25, 25, 25, 25);
        x.set(10, 0, 1000);
        Edges.borne("he CAN nothing", x, 0, 0, 34, 33, 33);
    }

    @Words(at = "Terms 2", value = "what is left is parted anew among the others")
    static void partedAnew() {
        parted(100, Edges.row(10, 28, 300, 300), 10, 28, 31, 31);
        parted(100, Edges.row(10, 30, 300, 300), 10, 30, 30, 30);
        parted(100, Edges.row(10, 20, 28, 300), 10, 20, 28, 42);
        parted(100, Edges.row(300, 28, 10, 300), 31, 28, 10, 31);
        // One more of them each time, until one alone is left.
        int[] shares = {31, 20, 10, 11, 31, 36, 32, 22};
        int[] tall = new int[8];
        for (int i = 0; i < 8; i++) {
            tall[i] = 40 + shares[i];
        }
        SixCarry x = Edges.crew(4, 999, tall, Edges.row(181, 0, 300, 65, 183, 212, 184, 113));
        Edges.tell(x, 0, "bear tall - 40;");
        Edges.borne("eight times", x, 0, 181, 0, 61, 65, 183, 212, 184, 113);
        x.set(9, 2, 60);
        Edges.borne("nobody is left", x, 0, NONE, NONE, NONE);
    }

    @Words(at = "Terms 2", value = "in the end one pound each of what downwards left goes to these from the least PLACE on.")
    static void onePoundEach() {
        SixCarry x = strong(4, 13, 300, 300, 300, 300, 300, 300, 300, 300);
        Edges.borne("5 of 8", x, 0, 2, 2, 2, 2, 2, 1, 1, 1);
        Edges.tell(x, 0, "bear 0 when pair + right = 0; bear 1;");
        Edges.borne("6 of 7, none to who has no SHARE", x, 0, 0, 2, 2, 2, 2, 2, 2, 1);
        parted(102, Edges.row(25, 25, 25, 25), 26, 26, 25, 25);
        parted(103, Edges.row(25, 25, 25, 25), 26, 26, 26, 25);
        parted(101, Edges.row(10, 300, 300, 300), 10, 31, 30, 30);
        parted(101, Edges.row(300, 300, 300, 10), 31, 30, 30, 10);
        parted(100, Edges.row(25, 25, 25, 24), 26, 25, 25, 24);
        parted(100, Edges.row(300, 300, 300, 300), 25, 25, 25, 25);
    }

    @Words(at = "Terms 2", value = "If nobody is left for it, or nobody HOLDS, it FALLS (each bears 0).")
    static void itFalls() {
        parted(104, Edges.row(25, 25, 25, 25), NONE, NONE, NONE, NONE);
        parted(100, Edges.row(24, 24, 24, 24), NONE, NONE, NONE, NONE);
        parted(4, Edges.row(0, 0, 0, 0), NONE, NONE, NONE, NONE);
        parted(999, Edges.row(248, 249, 249, 250), NONE, NONE, NONE, NONE);
        parted(999, Edges.row(300, 300, 300, 96), NONE, NONE, NONE, NONE);
        parted(999, Edges.row(300, 300, 300, 97), 301, 301, 300, 97);
        SixCarry x = strong(2, 1, 300, 300);
        Check.same("two hold", x.idle(0, 1), 1);
        x.place(0, NONE);
        Check.same("one holds", x.idle(0, 1), 0);
        Edges.tell(x, 2, "gate 2; walk 1;");
        x.paces(2);
        Check.same("he let go", x.look(4), 1);
        Check.same("in the first pace", x.book(0, 0), 0);
        x.place(1, NONE);
        Check.same("nobody holds", x.idle(0, 1), NONE);
        x.paces(1);
        Check.same("nobody holds", x.look(4), 2);
    }

    @Words(at = "Promise 14", value = "NONE if nobody is there, it FALLS, or one can't be.")
    static void loadsNone() {
        for (int pairs = 2; pairs <= 4; pairs++) {
            SixCarry x = Edges.even(pairs, 100);
            x.place(0, NONE);
            Check.same("nobody is there", x.loads(0, 0), NONE);
            Check.yes("somebody is", x.loads(2 * pairs - 1, 0) > 0);
            for (int p : new int[] {LEAST, -1, 2 * pairs, 8, GREATEST}) {
                Check.same("PLACE " + p, x.loads(p, 0), NONE);
            }
            for (int slope : new int[] {LEAST, -10, 10, GREATEST}) {
                Check.same("slope " + slope, x.loads(1, slope), NONE);
            }
            Check.yes("up 9", x.loads(1, 9) > 0);
            Check.yes("down 9", x.loads(1, -9) > 0);
            x.set(2, 0, 0);
            Check.same("he bears nothing, which is not NONE", x.loads(1, -9), 0);
            for (int b = 0; b < 2 * pairs; b++) {
                x.set(9, b, 10);
            }
            Check.same("it FALLS", x.loads(1, -9), NONE);
        }
    }

    @Words(at = "Promise 15", value = "NONE if it FALLS, one can't be, or another what.")
    static void idleNone() {
        SixCarry x = Edges.even(2, 100);
        for (int slope : new int[] {LEAST, -10, 10, GREATEST}) {
            Check.same("IDLE on " + slope, x.idle(slope, 0), NONE);
            Check.same("SPREAD on " + slope, x.idle(slope, 1), NONE);
        }
        for (int what : new int[] {LEAST, -1, 2, GREATEST}) {
            Check.same("what " + what, x.idle(0, what), NONE);
        }
        Check.same("up 9", x.idle(9, 1), 0);
        Check.same("down 9", x.idle(-9, 1), 0);
        x.set(9, 0, 0);
        x.set(0, 0, 903);
        Check.same("IDLE if it FALLS", x.idle(0, 0), NONE);
        Check.same("SPREAD if it FALLS", x.idle(0, 1), NONE);
        x.set(0, 0, 902);
        Check.same("it does not", x.idle(0, 0), 1);
        Check.same("it does not", x.idle(0, 1), 301);
    }

    @Words(at = "Terms 4", value = "IDLE: the PLACES of those who bear 0 (a set)")
    static void idleSet() {
        SixCarry x = strong(4, 100, 300, 300, 300, 300, 300, 300, 300, 300);
        Check.same("none", x.idle(0, 0), 0);
        x.set(6, 0, 1);
        Check.same("all but the first", x.idle(0, 0), 254);
        x.set(6, 0, 0);
        x.set(6, 7, 1);
        Check.same("all but the last", x.idle(0, 0), 127);
        x.place(0, NONE);
        x.place(5, NONE);
        Check.same("where nobody is, nobody bears 0", x.idle(0, 0), 126 - 32);
        x.place(7, NONE);
        x.set(0, 0, 4);
        Check.same("four pounds for five", x.idle(0, 0), 64);
    }

    @Words(at = "Terms 4", value = "SPREAD: the greatest less the least.")
    static void spread() {
        SixCarry x = strong(4, 100, 300, 300, 300, 300, 300, 300, 300, 300);
        Check.same("12 or 13", x.idle(0, 1), 1);
        x.set(0, 0, 104);
        Check.same("13 each", x.idle(0, 1), 0);
        x.set(6, 7, 1);
        Check.same("all and nothing", x.idle(0, 1), 104);
        for (int p = 0; p < 7; p++) {
            x.place(p, NONE);
        }
        Check.same("one alone: where nobody is, nobody bears 0", x.idle(0, 1), 0);
    }
}
