/** The edges that "Terms", 2. TEXTS name of a text and its FAULTS, and promises 6 to 9. */
public final class EdgeTextTest {
    private static final int NONE = SixCarry.NONE;
    private static final int LEAST = Integer.MIN_VALUE;
    private static final int GREATEST = Integer.MAX_VALUE;

    private EdgeTextTest() { }

    public static void main(String[] args) {
        Edges.run(EdgeTextTest.class);
    }

    private static SixCarry eight() {
        return Edges.even(4, 100);
    }

    private static void good(SixCarry x, int k, String text, int lines) {
        Check.same("lines of " + text, Tape.text(x, k, text), lines);
        Check.same("the FAULT of " + text, x.fault(0), 0);
        Check.same("its place in " + text, x.fault(1), NONE);
    }

    private static void good(int k, String text, int lines) {
        good(eight(), k, text, lines);
    }

    private static void fails(SixCarry x, int k, String text, int fault, int place) {
        Check.same("lines of " + text, Tape.text(x, k, text), NONE);
        Check.same("the FAULT of " + text, x.fault(0), fault);
        Check.same("its place in " + text, x.fault(1), place);
    }

    private static void fails(int k, String text, int fault, int place) {
        fails(eight(), k, text, fault, place);
    }

    /** If a condition is so, who is on the right bears 75 of 100, else 50. */
    private static void so(String condition) {
        SixCarry x = Edges.crew(2, 100, Edges.row(60, 60), Edges.row(300, 300));
        good(x, 0, "bear 3 when right = 1 and (" + condition + "); bear 1;", 2);
        Check.same("so is " + condition, x.loads(1, 0), 75);
        good(x, 0, "bear 3 when right = 1 and not (" + condition + "); bear 1;", 2);
        Check.same("not so is not " + condition, x.loads(1, 0), 50);
    }

    @Words(at = "Terms 2", value = "TEXTS (empty at first)")
    static void emptyAtFirst() {
        SixCarry x = Edges.crew(2, 100, Edges.row(60, 61), Edges.row(300, 300));
        for (int what = 8; what <= 10; what++) {
            Check.same("lines", x.look(what), 0);
        }
        Check.same("no law of bearing: over", x.loads(1, 0), 100);
        Check.same("no way", x.paces(1), 0);
        Edges.tell(x, 2, "walk 1;");
        x.paces(1);
        Check.same("no law of tiring: bears by 20", x.of(1, 4), 5);
    }

    @Words(at = "Terms 2", value = "0 THE LAW OF BEARING = {bear E [when B] ;}, 1 OF TIRING = {tire E [when B] ;}.")
    static void emptyLaws() {
        for (int k = 0; k < 2; k++) {
            String law = k == 0 ? "bear 1;" : "tire 9;";
            SixCarry x = Edges.crew(2, 100, Edges.row(60, 61), Edges.row(300, 300));
            good(x, k, law, 1);
            good(x, k, "", 0);
            Check.same("it is empty", x.look(8 + k), 0);
            Check.same("by no law", x.loads(1, 0), 100);
            good(x, k, law, 1);
            good(x, k, " \n \n", 0);
            Edges.tell(x, 2, "walk 1;");
            x.paces(1);
            Check.same("by no law", x.of(1, 4), 5);
        }
        fails(0, "bear;", 1, 4);
        fails(0, "bear 1 when;", 1, 11);
        fails(0, "bear 1", 1, 6);
        fails(1, "tire 1;;", 1, 7);
    }

    @Words(at = "Terms 2", value = "B = A {or A}. A = C {and C}.")
    static void conditionsOfOneAndOfMany() {
        so("1 = 1");
        so("1 = 1 or 1 = 1 and 1 = 2");
        so("1 = 2 and 1 = 1 or 1 = 1");
        so("not (1 = 2 and 1 = 2 or 1 = 2)");
        so("1 = 1 and 1 = 1 and 1 = 1");
        so("1 = 2 or 1 = 2 or 1 = 1");
        so("not (1 = 1 and 1 = 1 and 1 = 2)");
        fails(0, "bear 1 when or 1 = 1;", 1, 12);
        fails(0, "bear 1 when 1 = 1 or;", 1, 20);
        fails(0, "bear 1 when 1 = 1 and and 1 = 1;", 1, 22);
        fails(0, "bear 1 when 1 = 1 1 = 1;", 1, 18);
        good(0, "bear 1 when 1=1" + "or 1=1 ".repeat(54) + ";", 1);
        good(0, "bear 1 when 1=1" + "and 1=1 ".repeat(48) + ";", 1);
    }

    @Words(at = "Terms 2", value = "C = E (< | = | >) E | not C | ( B ).")
    static void comparisons() {
        so("not 1 < 1 and not 1 > 1 and 1 = 1");
        so("1 < 2 and not 2 < 1 and 2 > 1 and not 1 > 2 and not 1 = 2");
        so("not not 1 = 1");
        so("not (not (1 = 1))");
        so("not 1 = 2 and 1 = 1");
        SixCarry x = Edges.crew(2, 100, Edges.row(60, 60), Edges.row(300, 300));
        good(x, 0, "bear 9 when not right = 1; bear 1;", 2);
        Check.same("not so on the right alone", x.loads(1, 0), 10);
        good(x, 0, "bear 9 when 1 = 2 or not right = 1; bear 1;", 2);
        Check.same("not so on the right alone", x.loads(1, 0), 10);
        good(x, 0, "bear 9 when not not right = 1; bear 1;", 2);
        Check.same("so on the right alone", x.loads(1, 0), 90);
        fails(0, "bear 1 when 1;", 1, 13);
        fails(0, "bear 1 when (1) = 1;", 1, 14);
        fails(0, "bear 1 when 1 < 2 < 3;", 1, 18);
        fails(0, "bear 1 when ();", 1, 13);
        fails(0, "bear 1 when 1 =;", 1, 15);
        fails(0, "bear 1 when 1 = not 1 = 1;", 1, 16);
        fails(0, "bear 1 when (1 = 1;", 1, 18);
        fails(0, "bear 1 when 1 = 1);", 1, 17);
    }

    @Words(at = "Terms 2", value = "E = T {(+ | -) T}. T = U {* U | / NUMBER}.")
    static void sumsOfOneAndOfMany() {
        so("9 - 2 - 3 = 4");
        so("2 + 3 * 4 - 6 / 2 = 11");
        so("24 / 4 * 2 = 12");
        so("2 * 3 * 4 / 5 / 2 = 2");
        so("0 = 0 * 9999");
        fails(0, "bear + 1;", 1, 5);
        fails(0, "bear - 1;", 1, 5);
        fails(0, "bear 1 +;", 1, 8);
        fails(0, "bear 1 - - 1;", 1, 9);
        fails(0, "bear (1);", 1, 5);
        fails(0, "bear 6 / tall;", 1, 9);
        fails(0, "bear 6 * / 2;", 1, 9);
        good(0, "bear 1" + "+1".repeat(196) + ";", 1);
        good(0, "bear 1" + "-1".repeat(196) + ";", 1);
        good(0, "bear 1" + "*1".repeat(196) + ";", 1);
        good(0, "bear 1" + "/1".repeat(196) + ";", 1);
    }

    @Words(at = "Terms 2", value = "right | up | down | hands, of BEARING besides | over, of TIRING | bears | can | gravel | sway.")
    static void factsOfEitherLaw() {
        SixCarry x = Edges.crew(2, 100, Edges.row(60, 60, 60, 61), Edges.all(4, 300));
        for (int hands = 0; hands <= 1; hands++) {
            x.set(2, 0, hands);
            good(x, 0, "bear hands + over when right = 1; bear 0;", 1 + 1);
            Check.same("hands and over", x.loads(3, 0), hands == 0 ? 100 : 66);
            Check.same("hands and over", x.loads(1, 0), hands == 0 ? 0 : 34);
        }
        good(x, 1, "tire hands * 40 + bears / 10 + can / 100 + gravel * 2 + sway;", 1);
        good(x, 2, "walk 1 gravel;", 1);
        x.paces(1);
        Check.same("hands, bears, can and gravel", x.of(3, 4), 40 + 6 + 3 + 2);
        fails(1, "tire over;", 1, 5);
        fails(0, "bear bears;", 1, 5);
        fails(0, "bear can;", 1, 5);
        fails(0, "bear gravel;", 1, 5);
        fails(0, "bear sway;", 1, 5);
    }

    @Words(at = "Terms 2", value = "A WAY = {walk N [up S | down S] [gravel] ;")
    static void emptyWay() {
        SixCarry x = eight();
        good(x, 2, "walk 3;", 1);
        x.paces(1);
        good(x, 2, "", 0);
        Check.same("no line is left", x.look(10), 0);
        Check.same("no pace is left", x.paces(1), 0);
        Check.same("nor in thought", x.goes(0), 0);
        good(2, "walk 3; walk 1 gravel; walk 1 up 1; walk 1 down 1; walk 1 up 1 gravel; walk 1 down 1 gravel;", 6);
        fails(2, "walk 1 gravel up 1;", 1, 14);
        fails(2, "walk 1 up 1 down 1;", 1, 12);
        fails(2, "walk 1 gravel gravel;", 1, 14);
        fails(2, "gate 1 up 1;", 1, 7);
        fails(2, "gate 1 gravel;", 1, 7);
        fails(2, "rest 1 gravel;", 1, 7);
        fails(2, "walk;", 1, 4);
        fails(2, "walk 1 up;", 1, 9);
    }

    /** A NUMBER from least to most stands between these two. */
    private static void number(String ahead, String behind, int least, int most) {
        good(2, ahead + least + behind, 1);
        good(2, ahead + most + behind, 1);
        good(2, ahead + "000".substring(0, 4 - Integer.toString(most).length()) + most + behind, 1);
        fails(2, ahead + (most + 1) + behind, 2, ahead.length());
        fails(2, ahead + "9999" + behind, 2, ahead.length());
        if (least > 0) {
            fails(2, ahead + (least - 1) + behind, 2, ahead.length());
            fails(2, ahead + "0000" + behind, 2, ahead.length());
        }
    }

    @Words(at = "Terms 2", value = "(N of walk, gate 1 .. 200, of rest 1 .. 99, S 1 .. 9, of cloth 0 .. 6.)")
    static void numbersOfAWay() {
        number("walk ", ";", 1, 200);
        number("walk ", " up 1 gravel;", 1, 200);
        number("gate ", ";", 1, 200);
        number("rest ", ";", 1, 99);
        number("walk 1 up ", ";", 1, 9);
        number("walk 1 down ", ";", 1, 9);
        number("walk 1 down ", " gravel;", 1, 9);
        number("cloth 0 in ", ";", 0, 6);
    }

    @Words(at = "Terms 2", value = "letters as many as stand together are KEYWORDS (those told here for that text) or none")
    static void letters() {
        for (String word : new String[] {"tall", "strength", "knee", "tired", "cloth", "pair", "right", "up", "down", "hands"}) {
            good(0, "bear " + word + ";", 1);
            good(1, "tire " + word + ";", 1);
        }
        good(0, "bear over;", 1);
        fails(1, "tire over;", 1, 5);
        for (String word : new String[] {"bears", "can", "gravel", "sway"}) {
            good(1, "tire " + word + ";", 1);
            fails(0, "bear " + word + ";", 1, 5);
        }
        for (String word : new String[] {"walk", "gate", "rest", "change", "to", "in", "bear", "tire", "when", "or", "and", "not",
            "a", "tal", "talls", "Tall", "TALL", "tallX", "tallZ", "tallA", "tallz", "tallover", "x", "z", "A", "Z"}) {
            fails(0, "bear " + word + ";", 1, 5);
            fails(1, "tire " + word + ";", 1, 5);
        }
        for (String word : new String[] {"bear", "tire", "up", "down", "gravel", "to", "in", "when", "tall", "Walk", "walks", "wal"}) {
            fails(2, word + " 1;", 1, 0);
        }
        fails(0, "bearover;", 1, 0);
        fails(0, "be ar 1;", 1, 0);
        fails(0, "bear o\nver;", 1, 5);
        fails(0, "bear 1 whentall<1;", 1, 7);
        good(0, "bear1when1<2and2<3or not(1=1);", 1);
    }

    @Words(at = "Terms 2", value = "digits as many as stand together NUMBERS of 1 to 4 digits or none")
    static void digits() {
        for (String number : new String[] {"0", "9", "10", "99", "100", "999", "1000", "9999", "0000", "0009"}) {
            good(0, "bear " + number + ";", 1);
            good(0, "bear" + number + ";", 1);
        }
        for (String number : new String[] {"00000", "00001", "10000", "99999", "123456789012"}) {
            fails(0, "bear " + number + ";", 1, 5);
            fails(0, "bear 1 / " + number + ";", 1, 9);
            fails(2, "walk " + number + ";", 1, 5);
        }
        fails(0, "bear 12 345;", 1, 8);
        fails(0, "bear tall1;", 1, 9);
        so("9999 = 9998 + 1");
        so("0012 = 12");
        so("99 + 1 = 100");
        so("999 + 1 = 1000");
        so("0000 = 0");
    }

    /** Between "bear 1" and ";" stands each of all bytes; what is refused is the byte, or the end that it does not suffice for. */
    private static int placeWith(int c) {
        if (c == 32 || c == 10 || c >= '0' && c <= '9') {
            return NONE;
        }
        boolean goesOn = c == '+' || c == '-' || c == '*' || c == '/' || c == ';';
        return goesOn ? 7 : 6;
    }

    @Words(at = "Terms 2", value = "; + - * / ( ) < = > . Blanks (32, 10) between.")
    static void allBytes() {
        for (int c = 0; c < 256; c++) {
            SixCarry x = eight();
            int place = placeWith(c);
            x.feed(0x62656172, 0x20310000 | c << 8 | ';', 0, 0, 0);
            x.end(8);
            Check.same("lines with " + c, x.text(0), place == NONE ? 1 : NONE);
            Check.same("the FAULT with " + c, x.fault(0), place == NONE ? 0 : 1);
            Check.same("its place with " + c, x.fault(1), place);
        }
        good(0, "bear1+2-3*4/5when(1<2)and 1=1or 2>1;", 1);
        good(0, "\n\n bear\n1 \n+ \n2\n ;\n ", 1);
        so("1 = 1");
        so("1 < 2");
        so("2 > 1");
    }

    @Words(at = "Terms 2", value = "Ints, which wrap")
    static void intsWrap() {
        // 9999 times 9999 times 21 is 2099580021, with 9999 times 4790 and 8416 it is the greatest int.
        so("9999 * 9999 * 21 + 9999 * 4790 + 8416 > 0");
        so("9999 * 9999 * 21 + 9999 * 4790 + 8416 + 1 < 0");
        so("9999 * 9999 * 22 < 0");
        so("4096 * 4096 * 256 = 0");
        so("4096 * 4096 * 128 < 0");
        so("4096 * 4096 * 128 - 1 > 0");
        so("0 - 9999 * 9999 * 21 - 9999 * 9999 > 0");
        so("0 - 4096 * 4096 * 128 = 4096 * 4096 * 128");
        SixCarry x = Edges.crew(2, 100, Edges.row(60, 60), Edges.row(300, 300));
        good(x, 0, "bear 9999 * 9999 * 22 when right = 1; bear 1;", 2);
        Check.same("a SHARE below 0", x.loads(1, 0), 0);
        good(x, 0, "bear 9999 * 9999 * 43 when right = 1; bear 1;", 2);
        // 4299140043 is 4172747 then.
        Check.same("a SHARE above 999", x.loads(1, 0), 99);
        good(x, 1, "tire 9999 * 9999 * 22;", 1);
        good(x, 2, "walk 1;", 1);
        x.paces(1);
        Check.same("TIRED by what is below 0", x.of(1, 4), 0);
    }

    @Words(at = "Terms 2", value = "/ goes towards 0")
    static void partsGoTowardsNought() {
        // 9999 times 9999 times 22 wraps to -2095407274; 4096 times 4096 times 128 to -2147483648.
        so("9999 * 9999 * 22 / 1000 + 2095 * 1000 + 407 = 0");
        so("9999 * 9999 * 22 / 9999 + 209 * 1000 + 561 = 0");
        so("4096 * 4096 * 128 / 9999 + 214 * 1000 + 769 = 0");
        so("4096 * 4096 * 128 / 1 = 4096 * 4096 * 128");
        so("7 / 2 = 3");
        so("7 / 8 = 0");
        so("0 / 9999 = 0");
        so("20 / 3 * 2 = 12");
        so("29 / 5 / 3 = 1");
    }

    @Words(at = "Terms 2", value = "FAULTS, the first by its place")
    static void firstByItsPlace() {
        fails(0, "bear 1 / 0 foo", 2, 9);
        fails(0, "bear foo / 0;", 1, 5);
        fails(0, "bear 1 / 0 / 0;", 2, 9);
        fails(0, "bear 1 * / 0;", 1, 9);
        fails(0, "bear 1 / 0; foo", 2, 9);
        fails(0, "bear 1 when (((((((((1 / 0", 3, 20);
        fails(0, "bear 1 / 0 when (((((((((1", 2, 9);
        fails(0, "bear 1;".repeat(15) + "bear 1 / 0; bear 1;", 2, 114);
        fails(0, "bear 1;".repeat(15) + "bear x; bear 1;", 1, 110);
        fails(0, "bear 1;".repeat(16) + "bear 1 / 0;", 3, 112);
        fails(2, "walk 0 foo", 2, 5);
        fails(2, "walk 201", 2, 5);
        fails(2, "walk foo 0;", 1, 5);
        fails(2, "change 8 foo", 2, 7);
        fails(2, "change 8 to 8;", 2, 7);
        fails(2, "change 0 foo 8;", 1, 9);
        fails(2, "cloth 8 in 7;", 2, 6);
        fails(2, "walk 1 up 10 foo", 2, 10);
        fails(2, "rest 1;".repeat(39) + "rest 0; rest 1;", 2, 278);
        fails(2, "rest 1;".repeat(40) + "rest 0;", 3, 280);
    }

    @Words(at = "Terms 2", value = "at one place the least")
    static void leastAtOnePlace() {
        fails(0, "bear 1;".repeat(16) + "foo", 1, 112);
        fails(0, "bear 1;".repeat(16) + "tire 1;", 1, 112);
        fails(1, "tire 1;".repeat(16) + "bear 1;", 1, 112);
        fails(0, "bear 1;".repeat(16) + ";", 1, 112);
        fails(2, "rest 1;".repeat(40) + "foo", 1, 280);
        fails(2, "rest 1;".repeat(40) + "bear 1;", 1, 280);
        fails(0, "bear 1 when ((((((((1 (", 1, 22);
        fails(0, "bear 1 when ((((((((1=1 not", 1, 24);
        fails(0, "bear 1 when ((((((((1=1 + (", 1, 26);
        fails(0, "bear 1 / 00000;", 1, 9);
        fails(2, "walk 99999;", 1, 5);
        fails(2, "change 99999 to 0;", 1, 7);
    }

    @Words(at = "Terms 2", value = "1 what can't stand there (the end: the text's length)")
    static void cannotStand() {
        fails(0, "bear", 1, 4);
        fails(0, "bear   ", 1, 7);
        fails(0, "bear 1", 1, 6);
        fails(0, "bear 1\n", 1, 7);
        fails(1, "tire 1 +", 1, 8);
        fails(1, "tire 1 when (1 = 1", 1, 18);
        fails(1, "tire 1 when not", 1, 15);
        fails(2, "walk", 1, 4);
        fails(2, "walk 1", 1, 6);
        fails(2, "change 0 to", 1, 11);
        fails(2, "change 0", 1, 8);
        fails(0, "bear 1" + " ".repeat(394), 1, 400);
        fails(0, "bear 1" + "+1".repeat(197), 1, 400);
        fails(0, ")", 1, 0);
        fails(2, "walk 1; up 1;", 1, 8);
    }

    @Words(at = "Terms 2", value = "2 (at the NUMBER) a part by 0")
    static void partByNought() {
        for (String nought : new String[] {"0", "00", "000", "0000"}) {
            fails(0, "bear 1 / " + nought + ";", 2, 9);
            fails(0, "bear 1 /" + nought + ";", 2, 8);
            fails(1, "tire tall * 2 / " + nought + ";", 2, 16);
            fails(0, "bear 1 when 1 / " + nought + " < 1;", 2, 16);
            fails(0, "bear 1 when not (1 < 1 / " + nought + ");", 2, 25);
            fails(0, "bear 1 / 2 / " + nought + ";", 2, 13);
        }
        good(0, "bear 0 / 1;", 1);
        good(0, "bear 1 / 9999;", 1);
        good(0, "bear 1 / 0001;", 1);
        good(0, "bear 0 * 0;", 1);
    }

    @Words(at = "Terms 2", value = "one beyond its bounds")
    static void beyondItsBounds() {
        fails(2, "walk 1; walk 0;", 2, 13);
        fails(2, "walk 1; gate 201 ;", 2, 13);
        fails(2, "walk 1;\nrest 100;", 2, 13);
        fails(2, "walk 200 up 10;", 2, 12);
        fails(2, "walk 200 down 0 gravel;", 2, 14);
        fails(2, "cloth 7 in 7;", 2, 11);
    }

    @Words(at = "Terms 2", value = "a PLACE, a BEARER that there is not")
    static void placeOrBearerThatThereIsNot() {
        for (int pairs = 2; pairs <= 4; pairs++) {
            SixCarry x = new SixCarry();
            x.set(1, 0, pairs);
            for (int bearers = 0; bearers <= 8; bearers++) {
                fails(x, 2, "change 0 to " + bearers + ";", 2, 12);
                fails(x, 2, "change " + 2 * pairs + " to 0;", 2, 7);
                fails(x, 2, "cloth " + 2 * pairs + " in 0;", 2, 6);
                good(x, 2, "cloth " + (2 * pairs - 1) + " in 6;", 1);
                if (bearers > 0) {
                    good(x, 2, "change " + (2 * pairs - 1) + " to " + (bearers - 1) + ";", 1);
                    good(x, 2, "change 0 to 0;", 1);
                }
                x.bearer(60, 100, 0, 0);
            }
            fails(x, 2, "change 9999 to 0;", 2, 7);
            fails(x, 2, "change 0 to 9999;", 2, 12);
        }
    }

    @Words(at = "Terms 2", value = "3 (at its KEYWORD) the 17th line of a LAW")
    static void seventeenthLine() {
        for (int k = 0; k < 2; k++) {
            String line = k == 0 ? "bear 1;" : "tire 1;";
            good(k, line.repeat(15), 15);
            good(k, line.repeat(16), 16);
            good(k, line.repeat(16) + " \n ", 16);
            fails(k, line.repeat(17), 3, 112);
            fails(k, line.repeat(16) + " \n" + line, 3, 114);
            fails(k, line.repeat(16) + line.substring(0, 4), 3, 112);
            fails(k, line.repeat(40), 3, 112);
        }
    }

    @Words(at = "Terms 2", value = "the 41st of A WAY")
    static void fortyFirstLine() {
        good(2, "rest 1;".repeat(39), 39);
        good(2, "rest 1;".repeat(40), 40);
        good(2, "walk 1;".repeat(40) + "\n", 40);
        for (String line : new String[] {"rest 1;", "walk 1;", "gate 1;", "change 0 to 0;", "cloth 0 in 0;", "walk", "cloth 9"}) {
            fails(2, "rest 1;".repeat(40) + " " + line, 3, 281);
            fails(2, "gate 1;".repeat(40) + line, 3, 280);
        }
        fails(2, "walk 1;".repeat(57), 3, 280);
    }

    @Words(at = "Terms 2", value = "(at it) the 9th ( or not that is open")
    static void ninthOpen() {
        good(0, "bear 1 when " + "(".repeat(8) + "1=1" + ")".repeat(8) + ";", 1);
        fails(0, "bear 1 when " + "(".repeat(9) + "1=1" + ")".repeat(9) + ";", 3, 20);
        good(1, "tire 1 when " + "not ".repeat(8) + "1=1;", 1);
        fails(1, "tire 1 when " + "not ".repeat(9) + "1=1;", 3, 44);
        good(0, "bear 1 when " + "not(".repeat(4) + "1=1" + ")".repeat(4) + ";", 1);
        fails(0, "bear 1 when " + "not(".repeat(4) + "(1=1)", 3, 28);
        fails(0, "bear 1 when " + "not(".repeat(4) + "not 1=1", 3, 28);
        fails(0, "bear 1 when " + "not(".repeat(4) + "1=1 and 1=1 or (1=1)", 3, 43);
        // What is closed is not open.
        good(0, "bear 1 when " + "(".repeat(8) + "1=1" + ")".repeat(8) + " and " + "(".repeat(8) + "1=1" + ")".repeat(8) + ";", 1);
        good(0, "bear 1 when " + "not 1=1 and ".repeat(9) + "not 1=1;", 1);
        good(0, "bear 1 when " + "not ".repeat(8) + "1=1 or " + "not ".repeat(8) + "1=1;", 1);
        good(0, "bear 1 when " + "(".repeat(7) + "(1=1) and (1=1) or not 1=1" + ")".repeat(7) + ";", 1);
        fails(0, "bear 1 when " + "(".repeat(7) + "(1=1) and ((1=1", 3, 30);
        fails(0, "bear 1 when " + "(".repeat(7) + "not 1=1 and not not 1=1", 3, 35);
        good(0, "bear 1 when " + "(".repeat(8) + "1=1" + ")".repeat(8) + "; bear 1 when " + "(".repeat(8) + "1=1" + ")".repeat(8) + ";", 2);
    }

    @Words(at = "Promise 6", value = "Twenty bytes come behind the TAPE, of each number the highest first")
    static void highestFirst() {
        SixCarry x = Edges.crew(2, 100, Edges.row(60, 61), Edges.row(300, 300));
        // "bear1+1-1 when over;" is broken at its end, "bear tall-60+over;  " is not.
        Check.same("twenty", x.feed(0x62656172, 0x312b312d, 0x31207768, 0x656e206f, 0x7665723b), 20);
        Check.same("a FAULT", x.text(0), NONE);
        Check.same("at the last byte", x.fault(1), 19);
        Check.same("twenty", x.feed(0x62656172, 0x2074616c, 0x6c2d3630, 0x2b6f7665, 0x723b2020), 20);
        Check.same("a line", x.text(0), 1);
        Check.same("0 and 2", x.loads(1, 0), 100);
        for (int i = 0; i < 20; i++) {
            int[] n = Edges.all(5, 0x20202020);
            n[i / 4] = 0x20202020 ^ (0xdf << 24 - 8 * (i % 4));
            x.feed(n[0], n[1], n[2], n[3], n[4]);
            x.text(0);
            Check.same("byte 255 can't stand", x.fault(0), 1);
            Check.same("where it is", x.fault(1), i);
        }
    }

    @Words(at = "Promise 6", value = "NONE, and nothing comes, if there would be more than 400.")
    static void fullTape() {
        SixCarry x = new SixCarry();
        for (int i = 1; i <= 20; i++) {
            Check.same("how many", x.feed(0, 0, 0, 0, 0), 20 * i);
        }
        for (int length = 400; length > 380; length--) {
            Check.yes("cut to " + length, x.end(length));
            Check.same("more than 400", x.feed(0, 0, 0, 0, 0), NONE);
            Check.no("nothing came", x.end(length + 1));
        }
        x.end(380);
        Check.same("400 are as many", x.feed(LEAST, GREATEST, -1, 0, 1), 400);
        Check.same("more than 400", x.feed(0, 0, 0, 0, 0), NONE);
        x.end(1);
        Check.same("behind the one", x.feed(0, 0, 0, 0, 0), 21);
        // Nothing comes: not a part of the twenty either.
        SixCarry y = eight();
        Tape.feed(y, "bear 1;" + " ".repeat(378));
        Check.same("385 and 20", y.feed(0x78787878, 0x78787878, 0x78787878, 0x78787878, 0x78787878), NONE);
        Check.same("as it was", y.text(0), 1);
    }

    @Words(at = "Promise 7", value = "The TAPE has its first n bytes alone: true; false, changing nothing, if it has not so many, or n is below 0.")
    static void endOfTape() {
        SixCarry x = eight();
        Check.yes("none of none", x.end(0));
        Check.no("it has none", x.end(1));
        Tape.feed(x, "bear 1; bear 1;");
        for (int n : new int[] {LEAST, -1, 16, 20, 400, 401, GREATEST}) {
            Check.no("end " + n, x.end(n));
        }
        Check.yes("as many as it has", x.end(15));
        Check.same("two lines", x.text(0), 2);
        Tape.feed(x, "bear 1; bear 1;");
        Check.yes("seven", x.end(7));
        Check.no("the eighth is gone", x.end(8));
        Check.same("one line", x.text(0), 1);
        Tape.feed(x, "bear 1;");
        Check.yes("none", x.end(0));
        Check.same("no line", x.text(0), 0);
    }

    @Words(at = "Promise 8", value = "The TAPE, empty then, is TEXT k")
    static void tapeIsEmptyThen() {
        for (int k = -1; k <= 3; k++) {
            SixCarry x = eight();
            Tape.feed(x, "bear 1;");
            x.text(k);
            Check.no("nothing is left", x.end(1));
            Check.same("from the beginning", x.feed(0x20202020, 0x20202020, 0x20202020, 0x20202020, 0x20202020), 20);
            Check.same("but blanks", x.text(0), 0);
        }
    }

    @Words(at = "Promise 8", value = "(A WAY begins with its first line)")
    static void wayBegins() {
        SixCarry x = eight();
        String way = "rest 1; gate 4; walk 2;";
        good(x, 2, way, 3);
        for (int paces = 1; paces <= 6; paces++) {
            x.paces(paces);
            good(x, 2, way, 3);
            Check.same("all lines are left", x.look(10), 3);
            Check.same("all paces are left", x.goes(0), 6);
        }
        // In the first pace of the gate the pair in front lets go.
        x.set(10, 0, 0);
        x.set(10, 2, 0);
        good(x, 1, "tire 1;", 1);
        x.paces(1);
        Check.same("it lets go", x.of(0, 4), 0);
        Check.same("it does not", x.of(2, 4), 1);
    }

    @Words(at = "Promise 8", value = "NONE: no such one (fault() tells 0)")
    static void noSuchText() {
        for (int k : new int[] {LEAST, -1, 3, 4, GREATEST}) {
            SixCarry x = eight();
            good(x, 0, "bear 1;", 1);
            fails(x, 0, "foo", 1, 0);
            Tape.feed(x, "bear 1; foo");
            Edges.refused(x, "text " + k, NONE, () -> x.text(k));
            Check.same("no FAULT", x.fault(0), 0);
            Check.same("no place", x.fault(1), NONE);
        }
    }

    @Words(at = "Promise 8", value = "or a FAULT (it stays as it was).")
    static void staysAsItWas() {
        SixCarry x = Edges.crew(2, 100, Edges.row(60, 61), Edges.row(300, 300));
        good(x, 0, "bear 1 when right = 1; bear 3;", 2);
        good(x, 1, "tire 7;", 1);
        good(x, 2, "walk 1; walk 3; walk 1;", 3);
        x.paces(2);
        String[] broken = {"bear 2; bear 5 / 0;", "tire 1; tire", "walk 1; walk 1; walk 1; walk 1; foo"};
        for (int k = 0; k < 3; k++) {
            Tape.feed(x, broken[k]);
            int text = k;
            Edges.refused(x, broken[k], NONE, () -> x.text(text));
        }
        Check.same("the law of bearing", x.loads(1, 0), 25);
        x.paces(1);
        Check.same("the law of tiring", x.of(0, 4), 21);
        Check.same("the way goes on", x.goes(0), 2);
    }

    @Words(at = "Promise 9", value = "Of the latest text() what 0 the FAULT (0 without one), 1 its place (NONE).")
    static void withoutFault() {
        SixCarry x = eight();
        Check.same("no text yet", x.fault(0), 0);
        Check.same("no place yet", x.fault(1), NONE);
        fails(x, 2, "walk 201;", 2, 5);
        Tape.feed(x, "bear 1;");
        Check.same("of the latest text() still", x.fault(0), 2);
        Check.same("its place", x.fault(1), 5);
        good(x, 0, "bear 1;", 1);
        fails(x, 0, "?", 1, 0);
        Tape.feed(x, "");
        Check.same("an empty text", x.text(1), 0);
        Check.same("no FAULT", x.fault(0), 0);
        Check.same("no place", x.fault(1), NONE);
    }

    @Words(at = "Promise 9", value = "NONE for another what.")
    static void faultAnotherWhat() {
        SixCarry x = eight();
        fails(x, 0, "bear 1 / 0;", 2, 9);
        for (int what : new int[] {LEAST, -1, 2, 3, GREATEST}) {
            Check.same("what " + what, x.fault(what), NONE);
        }
    }
}
