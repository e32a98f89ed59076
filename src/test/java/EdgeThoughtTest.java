/** The edges that "Terms", 4. IN THOUGHT name, and promises 16 to 25 and 27 to 29. */
public final class EdgeThoughtTest {
    private static final int NONE = SixCarry.NONE;
    private static final int LEAST = Integer.MIN_VALUE;
    private static final int GREATEST = Integer.MAX_VALUE;

    private EdgeThoughtTest() { }

    public static void main(String[] args) {
        Edges.run(EdgeThoughtTest.class);
    }

    /** On shoulders, each of STRENGTH 300. */
    private static SixCarry high(int pairs, int pounds, int... tall) {
        return Edges.crew(pairs, pounds, tall, Edges.all(tall.length, 300));
    }

    private static void order(String what, SixCarry x, int spread, int... who) {
        Check.same(what + ": SPREAD of ORDER", x.order(0), spread);
        for (int p = 0; p < who.length; p++) {
            Check.same(what + ": the BEARER at PLACE " + p, x.order(10 + p), who[p]);
        }
    }

    private static void cloths(String what, SixCarry x, int spread, int inches, int... cloth) {
        Check.same(what + ": SPREAD of CLOTHS", x.cloths(0), spread);
        Check.same(what + ": inches", x.cloths(1), inches);
        for (int p = 0; p < cloth.length; p++) {
            Check.same(what + ": CLOTH of PLACE " + p, x.cloths(10 + p), cloth[p]);
        }
    }

    @Words(at = "Terms 4", value = "IN THOUGHT (nothing of it stays")
    static void nothingStays() {
        SixCarry x = high(2, 101, 60, 62, 60, 61, 65);
        x.set(5, 0, 1000);
        x.set(7, 1, 1);
        x.set(6, 2, 5);
        x.set(2, 0, 1);
        x.seen(0, 25);
        x.state(12345);
        Edges.tell(x, 0, "bear over + up * 3 + down * tall + cloth;");
        Edges.tell(x, 2, "walk 3; rest 1; change 0 to 4; cloth 3 in 2; walk 9 gravel; gate 3; rest 1;");
        x.paces(2);
        String was = Edges.look(x);
        int[] answers = new int[17];
        for (int round = 0; round < 3; round++) {
            for (int i = 0; i < answers.length; i++) {
                int answer = think(x, i);
                Check.yes("after thought " + i + " all is as it was", was.equals(Edges.look(x)));
                if (round > 0) {
                    Check.same("thought " + i + " once more", answer, answers[i]);
                }
                answers[i] = answer;
            }
        }
        x.undo();
        x.undo();
        Check.same("what can be undone is as it was", x.look(3), 0);
        Check.same("STATE, too", x.look(7), 12345);
    }

    /** Three could not bear it: if somebody slipped in thought, it would FALL. */
    @Words(at = "Terms 4", value = "no DRAWS).")
    static void noDraws() {
        for (int slip = 0; slip <= 1000; slip += 500) {
            SixCarry x = Edges.crew(2, 100, Edges.all(4, 60), Edges.all(4, 30));
            x.set(2, 0, 1);
            x.set(5, 0, slip);
            Edges.tell(x, 1, "tire 0;");
            Edges.tell(x, 2, "walk 200; walk 50 gravel;");
            Check.same("FALLS", x.goes(1), 0);
            Check.same("RESTS", x.rests(), 0);
            Check.same("FAR", x.far(0), 2000);
            // TIRED 198 he CAN 24, so a minute is wanted ahead of the third pace; after a FALL it would not be.
            Edges.tell(x, 1, "tire 99;");
            Edges.tell(x, 2, "walk 3;");
            Check.same("RESTS", x.rests(), 1);
            Check.same("STATE", x.look(7), 0);
        }
    }

    private static int think(SixCarry x, int i) {
        switch (i) {
            case 0: return x.loads(0, 3);
            case 1: return x.idle(-4, 0);
            case 2: return x.order(0);
            case 3: return x.dearest();
            case 4: return x.cloths(0);
            case 5: return x.far(2);
            case 6: return x.line();
            case 7: return x.gates();
            case 8: return x.sways(7);
            case 9: return x.sways(NONE);
            case 10: return x.goes(2);
            case 11: return x.rests();
            case 12: return x.straps(9, 1);
            case 13: return x.fits(0);
            case 14: return x.unseen(0);
            case 15: return x.helps(2);
            default: return x.helps(0);
        }
    }

    @Words(at = "Terms 4", value = "ORDER: of all ways to set BEARERS at all PLACES")
    static void orderOfTooFew() {
        for (int pairs = 2; pairs <= 4; pairs++) {
            SixCarry x = new SixCarry();
            x.set(1, 0, pairs);
            x.set(0, 0, 8);
            x.set(2, 0, 1);
            for (int b = 0; b < 2 * pairs; b++) {
                Check.same("too few", x.order(0), NONE);
                for (int p = 0; p < 2 * pairs; p++) {
                    Check.same("too few", x.order(10 + p), NONE);
                }
                x.bearer(60, 300, 0, 0);
            }
            int spread = 8 % (2 * pairs) == 0 ? 0 : 1;
            order("as many as PLACES, who all stand aside", x, spread, Edges.row(0, 1, 2, 3));
            Check.same("the last PLACE", x.order(9 + 2 * pairs), 2 * pairs - 1);
        }
    }

    @Words(at = "Terms 4", value = "(KEPT ones as they are)")
    static void orderKept() {
        SixCarry x = high(2, 100, 60, 60, 60, 60, 60);
        x.place(0, 4);
        order("none is KEPT", x, 0, 0, 1, 2, 3);
        x.set(7, 0, 1);
        order("the first", x, 0, 4, 0, 1, 2);
        x.set(7, 3, 1);
        order("the first and the last", x, 0, 4, 0, 1, 3);
        x.set(7, 1, 1);
        x.set(7, 2, 1);
        order("all", x, 0, 4, 1, 2, 3);
        x.set(9, 4, 24);
        Check.same("as they are there is none", x.order(0), NONE);
        x.set(7, 0, 0);
        order("but with the first one free", x, 0, 0, 1, 2, 3);
        SixCarry y = high(2, 100, 60, 60, 60, 60, 60);
        y.place(3, 0);
        y.set(7, 3, 1);
        order("who is KEPT is at no other PLACE", y, 0, 1, 2, 3, 0);
    }

    @Words(at = "Terms 4", value = "on the level, with CLOTHS as now")
    static void orderWithCloths() {
        SixCarry x = high(2, 100, 58, 60, 60, 60, 55);
        x.set(6, 2, 2);
        order("who is lower by 2 goes where 2 of CLOTH are", x, 0, 1, 2, 0, 3);
        x.set(6, 2, 0);
        x.set(6, 0, 5);
        // 55 and 5, or anybody else: two of 60 with 58 make 50, 50 and 0.
        order("who is lower by 5", x, 0, 4, 1, 2, 3);
        Edges.tell(x, 0, "bear up + down when right = 1; bear 0;");
        order("on the level", x, 0, 0, 1, 2, 3);
    }

    @Words(at = "Terms 4", value = "nobody would bear more than he CAN when it is parted first: the least SPREAD")
    static void orderWhenPartedFirst() {
        SixCarry x = Edges.crew(2, 102, Edges.all(4, 60), Edges.all(4, 25));
        x.set(2, 0, 1);
        order("25 each, and two bear one pound more than they CAN", x, 1, 0, 1, 2, 3);
        x = Edges.crew(2, 100, Edges.all(4, 60), Edges.row(300, 300, 300, 24));
        x.set(2, 0, 1);
        Check.same("it does not FALL", x.idle(0, 1), 2);
        Check.same("but somebody would bear more than he CAN", x.order(0), NONE);
        x.bearer(60, 25, 0, 0);
        order("another one for him, who CAN just that", x, 0, 0, 1, 2, 4);
        x.set(10, 4, 1);
        Check.same("he CAN 24 now", x.order(0), NONE);
        x.set(0, 0, 99);
        order("24 each", x, 1, 0, 1, 2, 3);
    }

    @Words(at = "Terms 4", value = "of several the first (PLACE by PLACE, the lesser BEARER).")
    static void orderFirstOfSeveral() {
        SixCarry x = high(4, 160, 60, 61, 60, 61, 60, 61, 60, 61);
        // Four of 61 bear 40 each however they are set.
        order("eight", x, 40, 0, 1, 2, 3, 4, 5, 6, 7);
        SixCarry y = high(2, 100, 62, 60, 61, 60, 61, 60);
        // 60, 61, 61 and 62 make 0, 25, 25 and 50; 61 twice with 60 twice as well, and 62 not.
        order("the lesser BEARER first", y, 50, 0, 1, 2, 4);
        y.set(0, 0, 101);
        // The pound that is left goes to the least PLACE with a SHARE: it is not to go to 62.
        order("but the least SPREAD ahead of that", y, 50, 1, 2, 0, 4);
    }

    @Words(at = "Promise 16", value = "NONE if there is none, or another what.")
    static void orderAnotherWhat() {
        for (int pairs = 2; pairs <= 4; pairs++) {
            SixCarry x = Edges.even(pairs, 24);
            order("there is one", x, 0, Edges.row(0, 1, 2, 3));
            Check.same("the last PLACE", x.order(9 + 2 * pairs), 2 * pairs - 1);
            for (int what : new int[] {LEAST, -1, 1, 2, 9, 10 + 2 * pairs, 18, GREATEST}) {
                Check.same("what " + what, x.order(what), NONE);
            }
            x.set(9, 0, 0);
            for (int what : new int[] {0, 10, 9 + 2 * pairs}) {
                Check.same("there is none", x.order(what), NONE);
            }
        }
    }

    @Words(at = "Terms 4", value = "DEAREST: the KEPT PLACE without which that SPREAD falls most")
    static void dearestFallsMost() {
        for (int low = 0; low < 4; low += 3) {
            SixCarry x = high(2, 480, 60, 60, 60, 60, 60, 60, 58, 70);
            Edges.tell(x, 0, "bear tall - 50;");
            x.place(low, 6);
            x.place(3 - low, 7);
            x.set(7, low, 1);
            x.set(7, 3 - low, 1);
            // SHARES 8, 10, 10, 20 make 120; 10, 10, 10, 20 make 96; 8, 10, 10, 10 less than 30.
            Check.same("SPREAD", x.order(0), 120);
            Check.same("not the first, nor the last, but the one that costs most", x.dearest(), 3 - low);
            x.set(7, 3 - low, 0);
            Check.same("the only one that is KEPT", x.dearest(), low);
        }
    }

    @Words(at = "Terms 4", value = "(of several the least; with none it falls: NONE)")
    static void dearestOfSeveral() {
        for (int p = 0; p < 3; p++) {
            SixCarry x = high(2, 420, 62, 62, 62, 62, 60, 60, 62);
            Edges.tell(x, 0, "bear 1 when tall = 60; bear 2;");
            x.place(p, 4);
            x.place(p + 1, 5);
            x.set(7, p, 1);
            x.set(7, p + 1, 1);
            // SHARES 1, 1, 2, 2 make 70, with either of them free 1, 2, 2, 2 make 60.
            Check.same("SPREAD", x.order(0), 70);
            Check.same("the least of two", x.dearest(), p);
        }
        SixCarry x = Edges.even(4, 100);
        Check.same("none KEPT", x.dearest(), NONE);
        for (int p = 0; p < 8; p++) {
            x.set(7, p, 1);
        }
        Check.same("all KEPT, and with none it falls", x.dearest(), NONE);
        x.place(3, NONE);
        Check.same("where nobody is neither", x.dearest(), NONE);
    }

    @Words(at = "Promise 17", value = "DEAREST; NONE if there is none.")
    static void dearestNone() {
        SixCarry x = new SixCarry();
        x.set(7, 0, 1);
        Check.same("no BEARERS", x.dearest(), NONE);
        SixCarry y = high(2, 480, 58, 60, 60, 70, 60);
        y.set(7, 3, 1);
        Check.same("no ORDER with him who CAN 300", y.dearest(), NONE);
        y.set(0, 0, 300);
        Edges.tell(y, 0, "bear tall - 50;");
        Check.same("an ORDER", y.dearest(), 3);
    }

    @Words(at = "Terms 4", value = "CLOTHS: 0 .. 3 at each PLACE, all else as now, on the level, by which the SPREAD is least")
    static void clothsBounds() {
        SixCarry x = high(2, 100, 60, 63);
        for (int now = 0; now <= 6; now += 3) {
            x.set(6, 0, now);
            cloths("3 make it even", x, 0, 3, 3, 0, 0, 0);
        }
        cloths("4 would, but 3 don't", high(2, 100, 60, 64), 100, 0, 0, 0, 0, 0);
        cloths("on the right", high(2, 100, 63, 60), 0, 3, 0, 3, 0, 0);
        SixCarry y = high(4, 80, 63, 60, 60, 60, 60, 60, 60, 60);
        cloths("all eight", y, 0, 21, 0, 3, 3, 3, 3, 3, 3, 3);
        y.place(0, NONE);
        cloths("where nobody is none is laid", y, 1, 0, 0, 0, 0, 0, 0, 0, 0, 0);
        Edges.tell(y, 0, "bear up + down + 1 - cloth;");
        cloths("on the level", y, 1, 0, 0, 0, 0, 0, 0, 0, 0, 0);
    }

    @Words(at = "Terms 4", value = "with that the fewest inches")
    static void clothsFewestInches() {
        SixCarry x = high(2, 100, 60, 60, 60, 60);
        for (int p = 0; p < 4; p++) {
            x.set(6, p, 1);
        }
        cloths("none is as good as 1 each", x, 0, 0, 0, 0, 0, 0);
        cloths("two heights", high(2, 100, 60, 62, 60, 61), 0, 5, 2, 0, 2, 1);
        SixCarry y = high(2, 100, 60, 60);
        Edges.tell(y, 0, "bear 6 when right = 0 and cloth = 0; bear 2 when right = 0 and cloth = 1; bear 9 when right = 0; bear cloth * 2;");
        cloths("1 and 1, not 0 and 3", y, 0, 2, 1, 1);
    }

    @Words(at = "Terms 4", value = "of several the first (PLACE by PLACE, the less).")
    static void clothsFirstOfSeveral() {
        SixCarry x = high(2, 100, 60, 60, 64);
        // 3 on either of the two makes 43 and 57, with nothing for the other one.
        cloths("the less at the first PLACE", x, 57, 3, 0, 3, 0);
        SixCarry y = high(2, 100, 60, 60);
        Edges.tell(y, 0, "bear 3 - cloth when right = 0; bear cloth;");
        cloths("0 and 3, 1 and 2, 2 and 1, 3 and 0", y, 0, 3, 0, 3, 0, 0);
        Edges.tell(y, 0, "bear 1 when cloth + right = 0; bear cloth when right = 1; bear 5 - cloth;");
        cloths("0 and 1 ahead of all that have more", y, 0, 1, 0, 1, 0, 0);
    }

    @Words(at = "Terms 4", value = "(It does not FALL.)")
    static void clothsWithoutAFall() {
        // Even, who CAN 40 leaves 60 to the other one; if he is the higher one, it FALLS.
        SixCarry x = Edges.crew(2, 100, Edges.row(60, 62), Edges.row(300, 40));
        Check.same("as it is it FALLS", x.idle(0, 0), NONE);
        cloths("2", x, 20, 2, 2, 0, 0, 0);
        x.set(9, 0, 59);
        cloths("no one can bear it all, and the two can't either", x, NONE, NONE, NONE, NONE);
        x.set(9, 0, 60);
        cloths("the two can", x, 20, 2, 2, 0, 0, 0);
    }

    @Words(at = "Promise 18", value = "NONE if always it FALLS, or another what.")
    static void clothsNone() {
        for (int pairs = 2; pairs <= 4; pairs++) {
            SixCarry x = Edges.even(pairs, 24);
            cloths("even", x, 0, 0, 0, 0, 0, 0);
            Check.same("the last PLACE", x.cloths(9 + 2 * pairs), 0);
            for (int what : new int[] {LEAST, -1, 2, 9, 10 + 2 * pairs, 18, GREATEST}) {
                Check.same("what " + what, x.cloths(what), NONE);
            }
            for (int b = 0; b < 2 * pairs; b++) {
                x.set(9, b, 0);
            }
            for (int what : new int[] {0, 1, 10, 9 + 2 * pairs}) {
                Check.same("always it FALLS", x.cloths(what), NONE);
            }
        }
        cloths("nobody is there", new SixCarry(), NONE, NONE, NONE);
    }

    /** One at PLACE 0 who steps wrongly, so that SWAY is one more in each pace, and one at PLACE 1; a pound each. */
    private static SixCarry longWalk(int restful) {
        SixCarry x = new SixCarry();
        x.bearer(60, 300, 0, 0);
        x.bearer(60, 300, 0, 0);
        x.place(0, 0);
        x.place(1, 1);
        x.set(0, 0, 2);
        x.set(2, 0, 1);
        x.set(3, 0, 100);
        Edges.tell(x, 1, "tire 1 when right = 0 and sway > " + restful + "; tire 1 when right = 1 and bears > 1; tire 0;");
        return x;
    }

    @Words(at = "Terms 4", value = "FAR on a slope: how many paces (2000 at most) until it FALLS")
    static void farMost() {
        // With TIRED 997 the first CAN nothing, with 994 the other one but one pound: 1992 paces and those until he is tired at all.
        Check.same("as far as that", longWalk(6).far(0), 1998);
        Check.same("just less", longWalk(7).far(0), 1999);
        Check.same("as many", longWalk(8).far(0), 2000);
        Check.same("at most", longWalk(9).far(0), 2000);
        Check.same("at most", longWalk(999).far(0), 2000);
    }

    @Words(at = "Terms 4", value = "until it FALLS (SWAY, TIRED as they would be; no gravel)")
    static void farUntilItFalls() {
        SixCarry x = Edges.crew(2, 50, Edges.row(60), Edges.row(100));
        Edges.tell(x, 1, "tire 100 * gravel + 50;");
        // TIRED 0, 50, .. 500: he CAN 50 still.
        Check.same("eleven", x.far(0), 11);
        x.set(10, 0, 500);
        Check.same("one", x.far(0), 1);
        x.set(10, 0, 501);
        Check.same("at once", x.far(0), 0);
        x.place(0, NONE);
        Check.same("nobody", x.far(0), 0);
        x.place(1, 0);
        x.set(10, 0, 0);
        x.set(3, 0, 100);
        Edges.tell(x, 1, "tire sway * 10;");
        // He steps wrongly: TIRED 0, 0, 10, 30, 60, 100, 150, 210, 280, 360, 450, 549.
        Check.same("by SWAY", x.far(0), 11);
        Edges.tell(x, 2, "walk 2;");
        x.paces(2);
        Check.same("from there", x.far(0), 9);
    }

    @Words(at = "Promise 19", value = "FAR; NONE if one can't be.")
    static void farNone() {
        SixCarry x = Edges.even(2, 100);
        for (int slope : new int[] {LEAST, -10, 10, GREATEST}) {
            Check.same("slope " + slope, x.far(slope), NONE);
        }
        Edges.tell(x, 1, "tire up * 10 + down * 11;");
        // 25 of 300 is borne until TIRED is above 916, or the others can't take what is too much.
        Check.same("the level", x.far(0), 2000);
        Check.same("up 9: 90 in each", x.far(9), 11);
        Check.same("down 9: 99 in each", x.far(-9), 10);
    }

    /** One who bears 50 of 100 until he is TIRED above 500. */
    private static void line(String law, int due) {
        SixCarry x = Edges.crew(2, 50, Edges.row(60), Edges.row(100));
        Edges.tell(x, 1, law);
        for (int hands = 0; hands <= 1; hands++) {
            x.set(2, 0, hands);
            Check.same(law, x.line(), due);
            Check.same("HANDS", x.look(20), hands);
        }
    }

    @Words(at = "Terms 4", value = "LINE: the least slope up 0 .. 9 on which they come farther by hand than on shoulders.")
    static void lineBounds() {
        line("tire 4 when hands = 1; tire 5;", 0);
        line("tire 5 when hands = 0; tire 4;", 0);
        line("tire 4 when hands = 1 and up > 0; tire 5;", 1);
        line("tire 4 when hands = 1 and up > 4; tire 5;", 5);
        line("tire 4 when hands = 1 and up > 8; tire 5;", 9);
        line("tire 4 when hands = 1 and up = 3 or hands = 1 and up = 6; tire 5;", 3);
        line("tire 5 when hands = 0 and up > 7; tire 4 when hands = 1 and up > 7; tire 6;", 8);
    }

    @Words(at = "Promise 20", value = "LINE; NONE if on none.")
    static void lineNone() {
        line("tire 4 when hands = 1 and up > 9; tire 5;", NONE);
        line("tire 4 when hands = 1 and down > 0; tire 5;", NONE);
        line("tire 5;", NONE);
        line("tire 6 when hands = 1; tire 5;", NONE);
        line("tire 0;", NONE);
        Check.same("nobody", new SixCarry().line(), NONE);
    }

    @Words(at = "Terms 4", value = "GATES: the pairs that can let go on the level, without it FALLING (a set).")
    static void gatesSet() {
        for (int pairs = 2; pairs <= 4; pairs++) {
            SixCarry x = Edges.even(pairs, 100);
            Check.same("each of them", x.gates(), (1 << pairs) - 1);
            for (int i = 0; i < pairs; i++) {
                for (int b = 0; b < 2 * pairs; b++) {
                    x.set(9, b, b / 2 == i ? 300 : 0);
                }
                Check.same("all but this one", x.gates(), (1 << pairs) - 1 - (1 << i));
            }
            x.set(0, 0, 650);
            Check.same("none", x.gates(), 0);
        }
        SixCarry x = Edges.crew(2, 100, Edges.row(60, 60, 64, 64), Edges.row(50, 50, 60, 60));
        Check.same("on the level, who CAN just that", x.gates(), 3);
        x.set(9, 1, 49);
        Check.same("one less", x.gates(), 1);
        x = offTheLevel();
        Check.same("on the level", x.gates(), 3);
        Check.same("nobody", new SixCarry().gates(), 0);
    }

    /** On every slope those on the right bear it all, who can't if there is but one of them. */
    private static SixCarry offTheLevel() {
        SixCarry x = Edges.crew(2, 100, Edges.all(4, 60), Edges.all(4, 60));
        Edges.tell(x, 0, "bear right when up + down > 0; bear 1;");
        return x;
    }

    @Words(at = "Promise 21", value = "GATES, as a set.")
    static void gatesOfAFew() {
        SixCarry x = Edges.even(4, 100);
        for (int p = 2; p < 8; p++) {
            x.place(p, NONE);
        }
        Check.same("not the pair that bears it all", x.gates(), 14);
        x.place(0, NONE);
        Check.same("nor one of it alone", x.gates(), 14);
        x.place(7, 7);
        Check.same("now every one", x.gates(), 15);
    }

    @Words(at = "Terms 4", value = "SWAYS after n (0 .. 1000) paces if all goes on")
    static void swaysBounds() {
        SixCarry x = high(2, 100, 60, 60, 60, 60);
        x.place(0, 1);
        x.place(1, NONE);
        x.set(3, 0, 100);
        Edges.tell(x, 1, "tire 0;");
        Edges.tell(x, 2, "walk 7;");
        for (int paces = 0; paces <= 7; paces++) {
            Check.same("after 0 it is as it is", x.sways(0), paces);
            Check.same("after 1", x.sways(1), paces + 1);
            Check.same("after 900", x.sways(900), paces + 900);
            Check.same("after 999", x.sways(999), 999);
            Check.same("after 1000", x.sways(1000), 999);
            x.paces(1);
        }
        x.set(3, 0, 50);
        Check.same("half of 7 and one", x.sways(1), 4);
        Check.same("half of 2 and one", x.sways(1000), 2);
        x.set(0, 0, 999);
        x.set(9, 1, 0);
        x.set(9, 2, 0);
        x.set(9, 3, 0);
        Check.same("all goes on", x.sways(1), 4);
    }

    @Words(at = "Terms 4", value = "GROWS: 1, if after 1000 paces it is more than after 500.")
    static void grows() {
        SixCarry x = high(2, 100, 60, 60, 60, 60);
        x.set(3, 0, 100);
        Edges.tell(x, 1, "tire 0;");
        Check.same("nobody steps wrongly", x.sways(NONE), 0);
        x.place(0, 1);
        x.place(1, NONE);
        Edges.tell(x, 2, "walk 200; walk 200; walk 100;");
        x.paces(200);
        x.paces(200);
        x.paces(98);
        Check.same("SWAY", x.look(5), 498);
        Check.same("998 and 999", x.sways(NONE), 1);
        x.paces(1);
        Check.same("999 and 999", x.sways(NONE), 0);
        x.place(0, 0);
        Check.same("499 and 499", x.sways(NONE), 0);
        x.set(3, 0, 99);
        Check.same("less and less", x.sways(NONE), 0);
        x.place(0, 1);
        x.set(3, 0, 101);
        Check.same("SWAY 499 goes up at once", x.sways(NONE), 0);
    }

    @Words(at = "Promise 22", value = "SWAYS after n paces; GROWS (n NONE). NONE - 1 if one can't be.")
    static void swaysNone() {
        SixCarry x = Edges.even(2, 100);
        for (int n : new int[] {LEAST, -1000, -3, -2, 1001, 1002, GREATEST}) {
            Check.same("n " + n, x.sways(n), NONE - 1);
        }
        for (int n : new int[] {NONE, 0, 1, 1000}) {
            Check.same("n " + n, x.sways(n), 0);
        }
    }

    private static void goes(String what, SixCarry x, int paces, int falls, int tired) {
        Check.same(what + ": PACES", x.goes(0), paces);
        Check.same(what + ": FALLS", x.goes(1), falls);
        Check.same(what + ": TIRED", x.goes(2), tired);
    }

    @Words(at = "Terms 4", value = "GOES: the rest of A WAY: how many PACES, how often it FALLS, the greatest TIRED of all then.")
    static void goesBounds() {
        goes("nobody and no way", new SixCarry(), 0, 0, 0);
        SixCarry x = Edges.even(2, 100);
        x.bearer(60, 300, 0, 0);
        x.set(10, 4, 77);
        goes("no way; of all, who stands aside, too", x, 0, 0, 77);
        Edges.tell(x, 1, "tire 1;");
        Edges.tell(x, 2, "walk 2; rest 1; walk 1; rest 1;");
        x.set(4, 0, 5);
        goes("with the rests, behind the last pace, too", x, 3, 0, 67);
        x.paces(1);
        goes("a line that is begun", x, 2, 0, 67);
        x.paces(2);
        goes("nothing is left", x, 0, 0, 67);
        Edges.tell(x, 2, "walk 1; rest 2;");
        goes("behind the only pace, too", x, 1, 0, 57);
        x.set(10, 0, 500);
        goes("the first one is most TIRED", x, 1, 0, 491);
        x.set(10, 0, 67);
        Edges.tell(x, 2, "walk 200;".repeat(40));
        x.set(0, 0, 1);
        goes("as many as there can be", x, 8000, 0, 1000);
        x.set(0, 0, 999);
        x.set(9, 0, 0);
        x.set(9, 1, 0);
        x.set(4, 0, 0);
        goes("it always FALLS", x, 8000, 8000, 67);
        x.paces(1);
        goes("those that are left alone", x, 7999, 7999, 67);
    }

    @Words(at = "Promise 23", value = "NONE for another what.")
    static void goesAnotherWhat() {
        SixCarry x = Edges.even(2, 100);
        Edges.tell(x, 2, "walk 2;");
        for (int what : new int[] {LEAST, -1, 3, 4, GREATEST}) {
            Check.same("what " + what, x.goes(what), NONE);
        }
    }

    /** One of STRENGTH 100 who has to bear it all, with EASE. */
    private static SixCarry alone(int pounds, int ease, int tired, String way) {
        SixCarry x = Edges.crew(2, pounds, Edges.row(60), Edges.row(100));
        x.set(4, 0, ease);
        x.set(10, 0, tired);
        Edges.tell(x, 1, "tire 99;");
        Edges.tell(x, 2, way);
        return x;
    }

    @Words(at = "Terms 4", value = "ahead of each pace that would FALL one minute after the other (EASE), 99 at most each time")
    static void restsMost() {
        Check.same("99", alone(100, 1, 99, "walk 1;").rests(), 99);
        Check.same("99 each time", alone(100, 1, 99, "walk 3;").rests(), 297);
        Check.same("99 each time but the first", alone(100, 1, 0, "walk 3; rest 99;").rests(), 198);
        Check.same("rests that are there", alone(100, 1, 99, "rest 98; walk 1; rest 99; walk 1; rest 1; walk 1;").rests(), 99);
        Check.same("no minute too many", alone(95, 10, 99, "walk 2;").rests(), 5 + 10);
        Check.same("0 at least", alone(100, 11, 1000, "walk 1;").rests(), 91);
        Check.same("all at once", alone(100, 1000, 1000, "walk 9;").rests(), 9);
        Check.same("in a gate", alone(100, 1, 99, "gate 2;").rests(), NONE);
        SixCarry x = alone(100, 1, 99, "gate 1;");
        x.place(2, 0);
        Check.same("in a gate behind", x.rests(), 99);
        SixCarry y = alone(100, 1, 99, "");
        Check.same("no way", y.rests(), 0);
        y.bearer(60, 300, 1, 0);
        Edges.tell(y, 2, "change 0 to 1; walk 1;");
        Check.same("behind a change", y.rests(), 0);
    }

    @Words(at = "Terms 4", value = "NONE if that is not enough.")
    static void restsNotEnough() {
        Check.same("a hundred minutes", alone(100, 1, 100, "walk 1;").rests(), NONE);
        Check.same("a hundred ahead of the second", alone(100, 1, 0, "rest 1; walk 1; walk 1;").rests(), 99);
        Check.same("10 by 10 from 1000", alone(100, 10, 1000, "walk 1;").rests(), NONE);
        Check.same("from 990", alone(100, 10, 990, "walk 1;").rests(), 99);
        Check.same("no EASE", alone(100, 0, 1, "walk 1;").rests(), NONE);
        Check.same("no EASE is needed", alone(100, 0, 0, "walk 1;").rests(), 0);
        Check.same("more than he ever CAN", alone(101, 1000, 0, "walk 1;").rests(), NONE);
        Check.same("at the end of the way", alone(100, 1, 99, "walk 2; gate 2;").rests(), NONE);
    }

    @Words(at = "Promise 24", value = "RESTS; NONE if it is not enough.")
    static void restsOfNoPace() {
        Check.same("nobody and no way", new SixCarry().rests(), 0);
        Check.same("no pace", alone(999, 1, 1000, "rest 1; cloth 0 in 1;").rests(), 0);
        SixCarry x = alone(100, 1, 0, "walk 2; walk 1;");
        Check.same("for the rest of A WAY", x.rests(), 198);
        x.paces(1);
        Check.same("one less", x.rests(), 198);
        x.paces(1);
        Check.same("it fell, and he has rested", x.rests(), 98);
        x.set(10, 0, 0);
        Check.same("none is needed", x.rests(), 0);
        x.paces(1);
        Check.same("no pace is left", x.rests(), 0);
        Edges.tell(x, 2, "walk 1;");
        x.place(0, NONE);
        Check.same("nobody HOLDS", x.rests(), NONE);
    }

    private static void level(SixCarry x, int n, int level, int worst, int second) {
        Check.same("LEVEL after " + n, x.straps(n, 0), level);
        Check.same("WORST of " + n, x.straps(n, 1), worst);
        Check.same("its second of " + n, x.straps(n, 2), second);
    }

    @Words(at = "Terms 4", value = "the greatest less the least height (TOP less n times SPEED, 0 at least)")
    static void strapsHeights() {
        SixCarry x = new SixCarry();
        x.bearer(60, 100, 0, 0);
        x.bearer(80, 100, 0, 0);
        x.bearer(40, 100, 0, 0);
        x.place(0, 0);
        x.place(5, 1);
        x.set(6, 5, 6);
        x.set(8, 0, 9);
        level(x, 0, 26, 26, 0);
        level(x, 1, 85 - 51, 34, 1);
        level(x, 6, 80 - 6, 74, 6);
        // From 7 on the lower one is at 0.
        level(x, 7, 79, 79, 7);
        level(x, 8, 78, 79, 7);
        level(x, 60, 26, 79, 7);
        x.set(8, 5, 9);
        level(x, 60, 0, 26, 0);
        x.set(8, 0, 1);
        level(x, 59, 1, 50, 10);
        level(x, 60, 0, 50, 10);
        x.place(3, 2);
        x.set(8, 3, 2);
        level(x, 20, 40, 50, 10);
    }

    @Words(at = "Terms 4", value = "LEVEL after n (0 .. 60) seconds")
    static void strapsSeconds() {
        SixCarry x = high(2, 100, 60, 70);
        for (int n : new int[] {LEAST, -1, 61, 62, GREATEST}) {
            for (int what = 0; what <= 2; what++) {
                Check.same("after " + n, x.straps(n, what), NONE);
            }
        }
        level(x, 0, 10, 10, 0);
        level(x, 60, 10, 10, 0);
    }

    @Words(at = "Terms 4", value = "WORST: the greatest of that from 0 to n; the second.")
    static void strapsWorst() {
        SixCarry x = high(2, 100, 60, 62);
        x.set(8, 1, 2);
        level(x, 0, 2, 2, 0);
        level(x, 1, 1, 2, 0);
        level(x, 4, 2, 2, 0);
        level(x, 5, 3, 3, 5);
        level(x, 31, 29, 29, 31);
        level(x, 32, 28, 29, 31);
    }

    @Words(at = "Promise 25", value = "2 its second (of several the first). NONE with nobody at any PLACE, if one can't be, or another what.")
    static void strapsNone() {
        SixCarry x = high(2, 100, 60, 64);
        for (int what : new int[] {LEAST, -1, 3, GREATEST}) {
            Check.same("what " + what, x.straps(0, what), NONE);
        }
        Check.same("always alike: the first second", x.straps(50, 2), 0);
        x.place(0, NONE);
        level(x, 60, 0, 0, 0);
        x.place(1, NONE);
        for (int what = 0; what <= 2; what++) {
            Check.same("nobody", x.straps(0, what), NONE);
            Check.same("nobody", x.straps(60, what), NONE);
        }
    }

    private static void fits(String what, SixCarry x, int many, int... who) {
        Check.same(what + ": how many FITS", x.fits(0), many);
        for (int p = 0; p < who.length; p++) {
            Check.same(what + ": the BEARER at PLACE " + p, x.fits(10 + p), who[p]);
        }
    }

    @Words(at = "Terms 4", value = "FITS: ways to set BEARERS at all PLACES so that on the level (it does not FALL) what was SEEN is borne")
    static void fitsBounds() {
        SixCarry x = high(2, 100, 60, 60, 60, 61);
        x.set(7, 0, 1);
        fits("none SEEN, and KEPT is not asked", x, 24, 0, 1, 2, 3);
        x.seen(0, 100);
        fits("61 bears it all", x, 6, 3, 0, 1, 2);
        x.seen(1, 0);
        fits("the others nothing", x, 6, 3, 0, 1, 2);
        x.seen(1, 100);
        fits("not both", x, 0, NONE, NONE, NONE, NONE);
        x.seen(1, NONE);
        x.seen(0, 999);
        fits("not 999", x, 0, NONE, NONE, NONE, NONE);
        x.seen(0, 99);
        fits("not one less", x, 0, NONE, NONE, NONE, NONE);
        x.seen(0, NONE);
        x.set(9, 3, 99);
        fits("it FALLS", x, 0, NONE, NONE, NONE, NONE);
        x.bearer(61, 1, 0, 0);
        // The two of 61 with two of the others: 99 and what is too much for them, one pound, for nobody else.
        fits("five: 99 and 1 are enough", x, 3 * 24, 0, 1, 3, 4);
        x.set(9, 4, 0);
        fits("99 and 0 are not", x, 0, NONE, NONE, NONE, NONE);
        SixCarry y = Edges.even(4, 800);
        fits("eight", y, 40320, 0, 1, 2, 3, 4, 5, 6, 7);
        y.seen(7, 100);
        fits("eight of 100", y, 40320, 0, 1, 2, 3, 4, 5, 6, 7);
        y.seen(0, 0);
        fits("none of 0", y, 0, NONE, NONE, NONE, NONE, NONE, NONE, NONE, NONE);
    }

    @Words(at = "Promise 27", value = "NONE without one (10 + p), or another what.")
    static void fitsNone() {
        for (int pairs = 2; pairs <= 4; pairs++) {
            SixCarry x = new SixCarry();
            x.set(1, 0, pairs);
            x.set(0, 0, 1);
            for (int b = 0; b < 2 * pairs; b++) {
                fits("too few", x, 0, NONE, NONE, NONE, NONE);
                x.bearer(60, 300, 0, 0);
            }
            Check.same("the last PLACE", x.fits(9 + 2 * pairs), 2 * pairs - 1);
            for (int what : new int[] {LEAST, -1, 1, 2, 9, 10 + 2 * pairs, 18, GREATEST}) {
                Check.same("what " + what, x.fits(what), NONE);
            }
        }
    }

    private static void unseen(String what, SixCarry x, int many, int first, int second) {
        Check.same(what + ": how many UNSEEN", x.unseen(0), many);
        Check.same(what + ": the first", x.unseen(1), first);
        Check.same(what + ": and with him", x.unseen(2), second);
    }

    @Words(at = "Terms 4", value = "UNSEEN: couples of PLACES that can both let go on the level, without it FALLING: how many; the first (the lesser one first).")
    static void unseenBounds() {
        for (int pairs = 2; pairs <= 4; pairs++) {
            SixCarry x = Edges.even(pairs, 60);
            unseen("all couples", x, pairs * (2 * pairs - 1), 0, 1);
            for (int b = 0; b < 2 * pairs - 2; b++) {
                x.set(9, b, 60 / (2 * pairs - 2));
            }
            x.set(9, 2 * pairs - 2, 0);
            x.set(9, 2 * pairs - 1, 0);
            unseen("the last couple alone", x, 1, 2 * pairs - 2, 2 * pairs - 1);
            x.set(0, 0, 120);
            unseen("none", x, 0, NONE, NONE);
        }
        SixCarry x = Edges.even(2, 60);
        x.place(1, NONE);
        unseen("where somebody is", x, 3, 0, 2);
        x.place(0, NONE);
        unseen("two alone can't both", x, 0, NONE, NONE);
        unseen("nobody", new SixCarry(), 0, NONE, NONE);
        unseen("on the level", offTheLevel(), 6, 0, 1);
    }

    @Words(at = "Promise 28", value = "UNSEEN what 0 how many, 1, 2 the PLACES of the first (NONE). NONE for another what.")
    static void unseenNone() {
        SixCarry x = Edges.even(2, 60);
        for (int what : new int[] {LEAST, -1, 3, 4, GREATEST}) {
            Check.same("what " + what, x.unseen(what), NONE);
        }
        unseen("all", x, 6, 0, 1);
    }

    private static void helps(String what, SixCarry x, int place, int bearer, int far) {
        Check.same(what + ": the PLACE", x.helps(0), place);
        Check.same(what + ": the BEARER", x.helps(1), bearer);
        Check.same(what + ": how far", x.helps(2), far);
    }

    @Words(at = "Terms 4", value = "by which FAR on the level is most: the PLACE, the BEARER (of several the least PLACE, then the least BEARER); how far.")
    static void helpsFirstOfSeveral() {
        SixCarry x = Edges.crew(2, 100, Edges.all(7, 60), Edges.row(30, 30, 30, 30, 29, 300, 300));
        x.set(2, 0, 1);
        Edges.tell(x, 1, "tire 10;");
        // As it is 25 each until TIRED is above 166. 300 with three of 30: 81 and 24 with TIRED 730, 78 and 21 with 740.
        Check.same("as it is", x.far(0), 17);
        helps("the least PLACE, the least of the two", x, 0, 5, 74);
        x.set(7, 0, 1);
        helps("KEPT is not asked", x, 0, 5, 74);
        x.set(9, 2, 10);
        helps("most for the weakest", x, 2, 5, 74);
        x.set(9, 5, 270);
        helps("the stronger one", x, 2, 6, 74);
        Edges.tell(x, 1, "tire 99 when up + down > 0; tire 10;");
        helps("on the level", x, 2, 6, 74);
        SixCarry z = Edges.crew(2, 100, Edges.all(5, 60), Edges.row(300, 30, 30, 30, 30));
        z.set(2, 0, 1);
        z.place(0, 4);
        Edges.tell(z, 1, "tire 10;");
        helps("the first BEARER", z, 0, 0, 74);
        SixCarry y = Edges.crew(4, 999, Edges.all(8, 60), Edges.all(8, 300));
        y.place(7, NONE);
        y.set(2, 0, 1);
        for (int b = 0; b < 7; b++) {
            y.set(9, b, b < 6 ? 120 : 0);
        }
        Edges.tell(y, 1, "tire 99;");
        helps("one for whom there is no other PLACE", y, 6, 7, y.helps(2));
        Check.yes("farther", y.helps(2) > y.far(0));
    }

    @Words(at = "Terms 4", value = "HELPS: a change of one at a PLACE for one who stands aside")
    static void helpsNobody() {
        SixCarry x = Edges.crew(2, 100, Edges.all(5, 60), Edges.row(30, 30, 30, 30, 300));
        x.set(2, 0, 1);
        Edges.tell(x, 1, "tire 10;");
        helps("one stands aside", x, 0, 4, 74);
        x.place(0, NONE);
        Check.same("not where nobody is", x.helps(0), 1);
        Check.same("nor he who just left, who CAN less", x.helps(1), 4);
        for (int p = 1; p < 4; p++) {
            x.place(p, NONE);
        }
        helps("nobody is at a PLACE", x, NONE, NONE, NONE);
        helps("nobody stands aside", Edges.even(4, 100), NONE, NONE, NONE);
        // 30 twice and 40 twice would do.
        SixCarry y = Edges.crew(2, 132, Edges.all(4, 60), Edges.row(30, 30, 30, 40));
        y.set(2, 0, 1);
        Edges.tell(y, 1, "tire 0;");
        helps("nobody stands aside, the strong one neither", y, NONE, NONE, NONE);
        helps("no BEARERS", new SixCarry(), NONE, NONE, NONE);
    }

    @Words(at = "Promise 29", value = "NONE if none goes farther than as it is, or another what.")
    static void helpsNone() {
        SixCarry x = Edges.crew(2, 100, Edges.all(5, 60), Edges.row(30, 30, 30, 30, 30));
        x.set(2, 0, 1);
        Edges.tell(x, 1, "tire 10;");
        helps("as far is not farther", x, NONE, NONE, NONE);
        x.set(9, 4, 29);
        helps("not so far", x, NONE, NONE, NONE);
        Edges.tell(x, 1, "tire 99 when up + down > 0; tire 10;");
        helps("on the level not so far", x, NONE, NONE, NONE);
        x.set(9, 4, 300);
        Edges.tell(x, 1, "tire 0;");
        helps("2000 as it is", x, NONE, NONE, NONE);
        x.set(0, 0, 120);
        Check.same("25 and 5 each are not too much", x.far(0), 2000);
        x.set(0, 0, 124);
        Check.same("31 are", x.far(0), 0);
        helps("from 0 to all", x, 0, 4, 2000);
        for (int what : new int[] {LEAST, -1, 3, 4, GREATEST}) {
            Check.same("what " + what, x.helps(what), NONE);
        }
    }
}
