/** Promises 14 to 25 and 27 to 29: what is thought, of which nothing stays. */
public final class ThoughtTest {
    private static final int NONE = SixCarry.NONE;

    private ThoughtTest() { }

    public static void main(String[] args) {
        loads();
        parting();
        sharesBySlope();
        idle();
        order();
        orderKept();
        dearest();
        cloths();
        far();
        line();
        gates();
        sways();
        goes();
        rests();
        straps();
        fits();
        unseen();
        helps();
        nothingStays();
        keptAnswersAreFresh();
        Check.close();
    }

    /** Two pairs on shoulders, 100 pounds, one bearer for each height and strength. */
    private static SixCarry crew(int[] tall, int[] strength) {
        SixCarry x = new SixCarry();
        x.set(1, 0, 2);
        x.set(0, 0, 100);
        for (int b = 0; b < tall.length; b++) {
            x.bearer(tall[b], strength[b], 1 - b % 2, 0);
            if (b < 4) {
                x.place(b, b);
            }
        }
        return x;
    }

    private static void borne(String what, SixCarry x, int slope, int... due) {
        for (int p = 0; p < due.length; p++) {
            Check.same(what + " at " + p, x.loads(p, slope), due[p]);
        }
    }

    private static void loads() {
        SixCarry x = crew(new int[] {60, 62, 60, 61}, new int[] {200, 200, 200, 200});
        borne("14: over", x, 0, 0, 67, 0, 33);
        borne("14: up 2", x, 2, 29, 57, 0, 14);
        borne("14: down 2", x, -2, 0, 29, 29, 42);
        x.set(6, 2, 3);
        borne("14: a cloth", x, 0, 0, 34, 50, 16);
        x.set(2, 0, 1);
        borne("14: by hand", x, 9, 25, 25, 25, 25);
        Check.same("14: place -1", x.loads(-1, 0), NONE);
        Check.same("14: place 4", x.loads(4, 0), NONE);
        Check.same("14: slope 10", x.loads(0, 10), NONE);
        Check.same("14: slope -10", x.loads(0, -10), NONE);
        x.place(1, NONE);
        borne("14: nobody", x, 0, 34, NONE, 33, 33);
        x.set(0, 0, 602);
        borne("14: what is left downwards is not asked for", x, 0, 201, NONE, 201, 200);
        x.set(0, 0, 603);
        borne("14: it falls", x, 0, NONE, NONE, NONE, NONE);
    }

    private static void parting() {
        SixCarry x = crew(new int[] {60, 60, 60, 60}, new int[] {25, 25, 25, 25});
        borne("14: all 0 are 1 each", x, 0, 25, 25, 25, 25);
        x.set(0, 0, 102);
        borne("14: one pound each of what is left, even beyond what they CAN", x, 0, 26, 26, 25, 25);
        x.set(0, 0, 104);
        borne("14: nobody is left", x, 0, NONE, NONE, NONE, NONE);
        x = crew(new int[] {60, 60, 60, 60}, new int[] {10, 300, 20, 300});
        Tape.text(x, 0, "bear 5 - pair - right * 2;");
        // SHARES 5, 3, 4, 2 of 14: 35, 21, 28, 14; 10 and 20 are what two CAN; of 70 left 42 and 28.
        borne("14: what is too much goes to the rest", x, 0, 10, 42, 20, 28);
        Tape.text(x, 0, "bear 0 when right = 1; bear 1;");
        borne("14: who has no SHARE takes nothing over", x, 0, NONE, NONE, NONE, NONE);
        Tape.text(x, 0, "bear 0 - 7 when right = 0; bear 9999;");
        borne("14: held to 0 .. 999", x, 0, 0, 50, 0, 50);
        Tape.text(x, 0, "bear 2000 when pair = 0 and right = 1; bear 1;");
        // 999 and 1, 1, 1 of 1002: 99 and 0 each; the pound that is left goes to the least place.
        borne("14: 999 at most", x, 0, 1, 99, 0, 0);
        Tape.text(x, 0, "bear 7 when tall > 70;");
        borne("14: no line: over", x, 0, 10, 35, 20, 35);
        x.set(2, 0, 1);
        borne("14: no line: by hand 1", x, 0, 10, 35, 20, 35);
        x.set(6, 1, 3);
        x.set(2, 0, 0);
        borne("14: no line: over with a cloth", x, 0, 0, 100, 0, 0);
    }

    private static void sharesBySlope() {
        SixCarry x = crew(new int[] {60, 60, 60, 60}, new int[] {300, 300, 300, 300});
        Tape.text(x, 0, "bear up when right = 1; bear down when pair = 1; bear 1;");
        borne("14: up 3", x, 3, 15, 43, 0, 42);
        borne("14: down 3", x, -3, 25, 0, 75, 0);
        borne("14: the level", x, 0, 100, 0, 0, 0);
        Tape.text(x, 0, "bear over + 1;");
        x.set(1, 0, 4);
        x.place(0, 0);
        x.place(3, 1);
        x.place(6, 2);
        // Up 2: over 6, 4 and 0: SHARES 7, 5, 1.
        Check.same("14: three pairs behind", x.loads(0, 2), 54);
        Check.same("14: two pairs behind", x.loads(3, 2), 39);
        Check.same("14: none behind", x.loads(6, 2), 7);
        Check.same("14: down 2, SHARES 1, 3, 7", x.loads(6, -2), 63);
    }

    private static void idle() {
        SixCarry x = crew(new int[] {60, 62, 60, 61}, new int[] {200, 200, 200, 200});
        Check.same("15: IDLE", x.idle(0, 0), 5);
        Check.same("15: SPREAD", x.idle(0, 1), 67);
        Check.same("15: IDLE up 2", x.idle(2, 0), 4);
        Check.same("15: SPREAD up 2", x.idle(2, 1), 57);
        Check.same("15: what 2", x.idle(0, 2), NONE);
        Check.same("15: what -1", x.idle(0, -1), NONE);
        Check.same("15: slope 10", x.idle(10, 0), NONE);
        Check.same("15: slope -10", x.idle(-10, 1), NONE);
        x.place(0, NONE);
        Check.same("15: nobody is not idle", x.idle(0, 0), 4);
        x.place(2, NONE);
        Check.same("15: SPREAD of two", x.idle(0, 1), 100);
        x.place(3, NONE);
        Check.same("15: SPREAD of one", x.idle(0, 1), 0);
        x.place(1, NONE);
        Check.same("15: nobody holds", x.idle(0, 1), NONE);
        Check.same("15: nobody holds", x.idle(0, 0), NONE);
    }

    private static void order() {
        SixCarry x = crew(new int[] {60, 62, 60, 61, 61}, new int[] {200, 200, 200, 200, 200});
        // 60, 62, 61, 61 are over by 0, 2, 1, 1: 0, 50, 25, 25; 60, 60, 61, 61 bear 0, 0, 50, 50, but come later.
        Check.same("16: SPREAD", x.order(0), 50);
        int[] due = {0, 1, 3, 4};
        for (int p = 0; p < 4; p++) {
            Check.same("16: at " + p, x.order(10 + p), due[p]);
        }
        Check.same("16: what 1", x.order(1), NONE);
        Check.same("16: what 9", x.order(9), NONE);
        Check.same("16: what 14", x.order(14), NONE);
        Check.same("16: what -1", x.order(-1), NONE);
        x.set(9, 1, 49);
        Check.same("16: nobody more than he CAN", x.order(11), 2);
        x.set(9, 3, 49);
        Check.same("16: none", x.order(0), NONE);
        Check.same("16: none at a place", x.order(10), NONE);
        x.set(9, 1, 50);
        Check.same("16: as much as he CAN", x.order(11), 1);
        x = crew(new int[] {60, 62, 60, 61}, new int[] {200, 66, 200, 200});
        Check.same("16: what is parted first counts, downwards", x.order(0), 66);
        x.set(9, 1, 65);
        Check.same("16: it would not fall, but he CAN less", x.order(0), NONE);
        Check.same("16: it would not fall", x.loads(3, 0), 35);
        SixCarry y = crew(new int[] {60, 60, 60}, new int[] {200, 200, 200});
        Check.same("16: too few", y.order(0), NONE);
        y.bearer(60, 200, 0, 0);
        Check.same("16: all alike", y.order(0), 0);
        Check.same("16: the first", y.order(13), 3);
    }

    private static void orderKept() {
        SixCarry x = crew(new int[] {60, 62, 60, 61, 60}, new int[] {200, 200, 200, 200, 200});
        x.set(7, 1, 1);
        x.set(7, 0, 1);
        // 60 and 62 stay; behind them 60 and 60 bear nothing (100 for one), 60 and 61 make it 67 and 33.
        Check.same("16: a KEPT place", x.order(10), 0);
        Check.same("16: a KEPT place", x.order(11), 1);
        Check.same("16: the others", x.order(12), 2);
        Check.same("16: the others", x.order(13), 3);
        Check.same("16: SPREAD", x.order(0), 67);
        keptWithNobody(x);
    }

    /** As in orderKept(): PLACES 0 and 1 are KEPT, and five bearers are there for four PLACES. */
    private static void keptWithNobody(SixCarry x) {
        x.place(0, NONE);
        // 62 stays at 1; the pound that is left goes to 61 if he is ahead of him: 34 and 66.
        Check.same("16: a KEPT place where nobody is binds nothing", x.order(0), 66);
        int[] due = {3, 1, 0, 2};
        for (int p = 0; p < 4; p++) {
            Check.same("16: somebody is set at " + p, x.order(10 + p), due[p]);
        }
        Check.same("17: nothing falls without it", x.dearest(), NONE);
        Check.same("16: it stays KEPT", x.at(0, 2), 1);
        Check.same("16: nobody is there still", x.at(0, 0), NONE);
        x.set(7, 0, 0);
        Check.same("16: the same if it is not KEPT", x.order(0), 66);
        x.set(7, 3, 1);
        Check.same("16: 61 KEPT at 3", x.order(0), 67);
        x.place(3, NONE);
        Check.same("16: the last place KEPT with nobody", x.order(0), 66);
        Check.same("16: 61 is wanted in front", x.order(10), 3);
        x.place(3, 3);
        Check.same("16: somebody there again", x.order(13), 3);
        SixCarry few = crew(new int[] {60, 62, 60}, new int[] {200, 200, 200});
        few.set(7, 3, 1);
        Check.same("16: too few for a KEPT place where nobody is", few.order(0), NONE);
        Check.same("17: no SPREAD that could fall", few.dearest(), NONE);
        few.bearer(60, 200, 0, 0);
        Check.same("16: enough of them", few.order(13), 3);
        allKeptWithNobody();
    }

    private static void allKeptWithNobody() {
        SixCarry x = crew(new int[] {60, 60, 60, 60}, new int[] {200, 200, 200, 200});
        x.set(1, 0, 4);
        for (int b = 4; b < 8; b++) {
            x.bearer(60, 200, 0, 0);
        }
        for (int p = 0; p < 8; p++) {
            x.set(7, p, 1);
        }
        // Eight of one height bear 12 or 13 each.
        Check.same("16: all KEPT with nobody", x.order(0), 1);
        for (int p = 0; p < 8; p++) {
            Check.same("16: the first way", x.order(10 + p), p);
        }
        x.place(7, 0);
        Check.same("16: one KEPT where he is", x.order(17), 0);
        Check.same("16: the others", x.order(10), 1);
        Check.same("17: it costs nothing", x.dearest(), NONE);
    }

    private static void dearest() {
        SixCarry x = crew(new int[] {60, 62, 60, 61, 60}, new int[] {200, 200, 200, 200, 200});
        Check.same("17: nothing KEPT", x.dearest(), NONE);
        x.set(7, 1, 1);
        x.set(7, 3, 1);
        // 67 and 33; only if 61 may go ahead of 62, the pound that is left makes it 66 and 34.
        Check.same("17: it falls by one", x.dearest(), 3);
        x = crew(new int[] {60, 62, 61, 61, 60}, new int[] {200, 200, 200, 200, 200});
        x.set(7, 0, 1);
        x.set(7, 1, 1);
        // 60 and 62 with two of 61: 25, 50, 25; without the tallest 60, 60, 61, 61: 50; without 60 the same as with it.
        Check.same("17: all falls alike", x.order(0), 50);
        Check.same("17: none falls", x.dearest(), NONE);
        x.bearer(61, 200, 0, 0);
        // Now 61 three times: with 62 it is 100, with 60 33, 33, 34; without both 0.
        Check.same("17: the one that costs most", x.dearest(), 1);
        x.place(0, NONE);
        // With 62: 60, 62, 61, 61, which is 50; without him 60 and 61 three times.
        Check.same("16: a KEPT place with nobody", x.order(0), 50);
        Check.same("17: it is never the dearest", x.dearest(), 1);
        x.place(0, 0);
        manyKept();
        x.set(9, 1, 10);
        Check.same("17: no ORDER as it is", x.order(0), NONE);
        Check.same("17: none then", x.dearest(), NONE);
    }

    private static void manyKept() {
        SixCarry x = crew(new int[] {60, 61, 70, 66, 60, 60, 60}, new int[] {300, 300, 300, 300, 300, 300, 300});
        Tape.text(x, 0, "bear 100 when tall = 60; bear 110 when tall = 61; bear 200 when tall = 70; bear 150;");
        x.set(0, 0, 560);
        x.set(7, 1, 1);
        x.set(7, 2, 1);
        x.set(7, 3, 1);
        // As it is 100, 110, 200, 150; without the one of 70: 60, 61, 60, 66; without 66: 60, 61, 70, 60.
        Check.same("16: SPREAD", x.order(0), 100);
        Check.same("17: not the first that falls, nor the last", x.dearest(), 2);
        x.place(2, 4);
        x.place(0, 2);
        x.set(7, 0, 1);
        x.set(7, 2, 0);
        Check.same("16: who is KEPT at place 0 is not elsewhere", x.order(12), 0);
        Check.same("17: place 0", x.dearest(), 0);
    }

    private static void cloths() {
        SixCarry x = crew(new int[] {60, 62, 60, 61}, new int[] {200, 200, 200, 200});
        x.set(6, 1, 6);
        Check.same("18: SPREAD", x.cloths(0), 0);
        Check.same("18: inches", x.cloths(1), 5);
        int[] due = {2, 0, 2, 1};
        for (int p = 0; p < 4; p++) {
            Check.same("18: at " + p, x.cloths(10 + p), due[p]);
        }
        Check.same("18: nothing stays", x.at(1, 1), 6);
        Check.same("18: what 2", x.cloths(2), NONE);
        Check.same("18: what 14", x.cloths(14), NONE);
        Check.same("18: what -1", x.cloths(-1), NONE);
        x.place(1, NONE);
        Check.same("18: nobody needs none", x.cloths(1), 2);
        Check.same("18: nobody needs none", x.cloths(11), 0);
        x.set(0, 0, 999);
        Check.same("18: always it falls", x.cloths(0), NONE);
        Check.same("18: always it falls", x.cloths(10), NONE);
        SixCarry z = crew(new int[] {60, 60, 64}, new int[] {200, 200, 200});
        // 3, 0, 0 and 0, 3, 0 make 43 and 57, with nothing for one; nothing makes less.
        Check.same("18: SPREAD of several", z.cloths(0), 57);
        Check.same("18: inches of several", z.cloths(1), 3);
        Check.same("18: the first of several, the less", z.cloths(10), 0);
        Check.same("18: the first of several", z.cloths(11), 3);
        SixCarry y = crew(new int[] {60, 70}, new int[] {200, 200});
        // Ten inches can't be made up: all on the taller, with the least cloth.
        Check.same("18: SPREAD", y.cloths(0), 100);
        Check.same("18: inches", y.cloths(1), 0);
        Tape.text(y, 0, "bear 6 - cloth when tall = 60; bear 4;");
        Check.same("18: by a law", y.cloths(0), 0);
        Check.same("18: two inches", y.cloths(10), 2);
        Check.same("18: none", y.cloths(11), 0);
    }

    private static void far() {
        SixCarry x = crew(new int[] {60}, new int[] {100});
        x.set(10, 0, 1);
        Check.same("19: at once", x.far(0), 0);
        x.set(0, 0, 99);
        // TIRED 1, 5, 9, 13: he CAN 99, 99, 99, 98.
        Check.same("19: three", x.far(0), 3);
        Check.same("19: up 9", x.far(9), 3);
        Check.same("19: down 9", x.far(-9), 3);
        Check.same("19: slope 10", x.far(10), NONE);
        Check.same("19: slope -10", x.far(-10), NONE);
        Tape.text(x, 1, "tire up;");
        Check.same("19: for ever", x.far(0), 2000);
        Check.same("19: 2000 at most", x.far(-3), 2000);
        Check.same("19: up 1, TIRED 1 .. 10", x.far(1), 10);
        Tape.text(x, 1, "tire gravel * 50 + sway;");
        x.place(1, 0);
        x.place(0, 0);
        Check.same("19: nobody steps wrongly", x.far(0), 2000);
        x.place(1, 0);
        // He steps wrongly: SWAY 0, 1, 1, .. tires by 0, 1, 1, ..: 1, 1, 2, 3, .. 10.
        Check.same("19: SWAY as it would be", x.far(0), 11);
        x.place(1, NONE);
        Check.same("19: nobody", x.far(0), 0);
    }

    private static void line() {
        SixCarry x = crew(new int[] {60, 60, 60, 60}, new int[] {100, 100, 100, 100});
        x.set(0, 0, 180);
        Tape.text(x, 1, "tire 10 when hands = 1; tire 5;");
        // On the level all four bear on shoulders, too, and tire less; on any slope one pair bears 90 each.
        // By hand 45 each until TIRED is above 550; on shoulders 90 each until it is above 100.
        Check.same("20: by hand", x.line(), 1);
        x.set(2, 0, 1);
        Check.same("20: by hand is asked for both", x.line(), 1);
        Check.same("20: HANDS stays", x.look(20), 1);
        Tape.text(x, 1, "tire 10 + up * 10 when hands = 1; tire 5;");
        // By hand 56 paces and less, on shoulders 21: 550 by 10 + 10 s.
        Check.same("20: still by hand", x.line(), 1);
        Tape.text(x, 1, "tire 99 when hands = 1; tire 5;");
        Check.same("20: on none", x.line(), NONE);
        Tape.text(x, 1, "tire 99 when hands = 1; tire up * up;");
        // By hand 6 paces; on shoulders 100 by 25 and one more is 5, by 16 it is 7.
        Check.same("20: from 5 on", x.line(), 5);
        Tape.text(x, 1, "tire 99 when hands = 1; tire 99 when up > 8; tire 5;");
        Check.same("20: on the steepest alone", x.line(), 9);
        Tape.text(x, 1, "tire 4 when hands = 1; tire 5;");
        Check.same("20: on the level", x.line(), 0);
        Tape.text(x, 1, "tire 0;");
        Check.same("20: as far is not farther", x.line(), NONE);
    }

    private static void gates() {
        SixCarry x = crew(new int[] {60, 60, 60, 60}, new int[] {60, 60, 60, 30});
        Check.same("21: the pair behind alone", x.gates(), 2);
        x.set(9, 3, 60);
        Check.same("21: both", x.gates(), 3);
        x.set(0, 0, 123);
        Check.same("21: none", x.gates(), 0);
        x.set(0, 0, 60);
        x.place(2, NONE);
        x.place(3, NONE);
        Check.same("21: where nobody is", x.gates(), 2);
        x.place(0, NONE);
        x.place(1, NONE);
        Check.same("21: nobody", x.gates(), 0);
    }

    private static void sways() {
        SixCarry x = crew(new int[] {60, 60, 60, 60}, new int[] {60, 60, 60, 60});
        x.place(0, 1);
        x.place(1, 0);
        x.set(3, 0, 90);
        // Two step wrongly: 0, 2, 3, 4, 5, .. to 11 and no more.
        int[] due = {0, 2, 3, 4, 5, 6};
        for (int n = 0; n < due.length; n++) {
            Check.same("22: after " + n, x.sways(n), due[n]);
        }
        Check.same("22: it does not grow", x.sways(NONE), 0);
        x.set(3, 0, 100);
        Check.same("22: after 400", x.sways(400), 800);
        Check.same("22: 999 at most", x.sways(500), 999);
        Check.same("22: it grows, but not from 500 on", x.sways(NONE), 0);
        x.place(1, NONE);
        Check.same("22: one a pace", x.sways(500), 500);
        Check.same("22: it grows", x.sways(NONE), 1);
        Check.same("22: 1001", x.sways(1001), NONE - 1);
        Check.same("22: -2", x.sways(-2), NONE - 1);
        Check.same("22: least", x.sways(Integer.MIN_VALUE), NONE - 1);
        Tape.text(x, 1, "tire 0;");
        Tape.text(x, 2, "walk 3;");
        x.paces(3);
        Check.same("22: from SWAY on", x.sways(2), 5);
    }

    private static void goes() {
        SixCarry x = crew(new int[] {60, 60, 60, 60, 60}, new int[] {100, 100, 100, 100, 100});
        x.set(4, 0, 7);
        x.set(5, 0, 1000);
        x.set(10, 4, 30);
        Tape.text(x, 1, "tire 10;");
        Tape.text(x, 2, "walk 3; rest 1; change 0 to 4; walk 2 up 3; cloth 0 in 6; rest 2;");
        Check.same("23: PACES", x.goes(0), 5);
        Check.same("23: FALLS", x.goes(1), 0);
        // 1: 30 - 7 + 20 - 14; 4: 30 - 7 + 20 - 14; 2: 30 - 7 - 14.
        Check.same("23: TIRED", x.goes(2), 29);
        Check.same("23: what 3", x.goes(3), NONE);
        Check.same("23: what -1", x.goes(-1), NONE);
        Check.same("23: nothing stays", x.look(3), 0);
        Check.same("23: no DRAWS", x.look(7), 0);
        Check.same("23: THE BOOK", x.look(6), 0);
        Check.same("23: the way", x.look(10), 6);
        x.set(0, 0, 201);
        // On the level 50 each; up 3 one pair bears 100 each, one pound is left for one: all of them CAN less by then.
        Check.same("23: it falls on the slope", x.goes(1), 2);
        x.set(5, 0, 0);
        x.paces(4);
        Check.same("23: the rest of the way", x.goes(0), 1);
        Check.same("23: its falls alone", x.goes(1), 1);
        longestWay();
        SixCarry y = crew(new int[] {60}, new int[] {100});
        y.set(10, 0, 500);
        Tape.text(y, 2, "rest 2;");
        Check.same("23: without a pace", y.goes(0), 0);
        Check.same("23: nothing is done", y.goes(2), 500);
    }

    private static void longestWay() {
        SixCarry x = crew(new int[] {60}, new int[] {100});
        x.set(0, 0, 50);
        x.set(4, 0, 1);
        Tape.text(x, 1, "tire 1;");
        Tape.text(x, 2, "walk 200;".repeat(40));
        Check.same("23: 8000", x.goes(0), 8000);
        // TIRED 0 .. 500 are 501 paces; then every second pace falls and eases by 1.
        Check.same("23: FALLS", x.goes(1), 3750);
        Check.same("23: TIRED", x.goes(2), 500);
        // One minute ahead of each pace but the first 501.
        Check.same("24: minutes", x.rests(), 8000 - 501);
    }

    private static void rests() {
        SixCarry x = crew(new int[] {60}, new int[] {100});
        x.set(0, 0, 90);
        x.set(4, 0, 10);
        Tape.text(x, 1, "tire 30;");
        Check.same("24: no way", x.rests(), 0);
        Tape.text(x, 2, "walk 3;");
        // 0, 30, 60: he CAN 100, 97, 94.
        Check.same("24: none", x.rests(), 0);
        Tape.text(x, 2, "walk 6;");
        // Then 90 (it holds), 120 needs 2 minutes to 100, 130 needs 3.
        Check.same("24: 5", x.rests(), 5);
        Check.same("24: nothing stays", x.of(0, 4), 0);
        Tape.text(x, 2, "walk 4; rest 1; walk 1; rest 9; walk 1;");
        Check.same("24: more than there are", x.rests(), 1);
        x.set(0, 0, 101);
        Check.same("24: not enough", x.rests(), NONE);
        x.set(0, 0, 100);
        x.set(4, 0, 1);
        x.set(10, 0, 99);
        Tape.text(x, 2, "walk 1;");
        Check.same("24: 99 at most", x.rests(), 99);
        x.set(10, 0, 100);
        Check.same("24: one too many", x.rests(), NONE);
        x.set(4, 0, 0);
        Check.same("24: no EASE", x.rests(), NONE);
        SixCarry y = crew(new int[] {60, 60, 60, 60}, new int[] {100, 100, 49, 100});
        Tape.text(y, 2, "walk 9; gate 2;");
        Tape.text(y, 1, "tire 0;");
        Check.same("24: in a gate", y.rests(), 0);
        y.set(0, 0, 160);
        Check.same("24: a pair that lets go", y.rests(), NONE);
    }

    private static void straps() {
        SixCarry x = new SixCarry();
        Check.same("25: nobody", x.straps(0, 0), NONE);
        x.bearer(60, 100, 0, 0);
        x.bearer(64, 100, 0, 0);
        x.place(0, 0);
        Check.same("25: one", x.straps(60, 1), 0);
        x.place(5, 1);
        x.set(8, 5, 3);
        x.set(6, 0, 1);
        // 61, 64; 60, 61; 59, 58; 58, 55; .. 40, 1; 39, 0; ..
        int[] due = {3, 1, 1, 3, 5};
        for (int n = 0; n < due.length; n++) {
            Check.same("25: after " + n, x.straps(n, 0), due[n]);
        }
        Check.same("25: WORST of 3", x.straps(3, 1), 3);
        Check.same("25: the first of several", x.straps(3, 2), 0);
        Check.same("25: WORST of 4", x.straps(4, 2), 4);
        Check.same("25: WORST", x.straps(60, 1), 39);
        Check.same("25: its second", x.straps(60, 2), 21);
        Check.same("25: after 60", x.straps(60, 0), 1);
        Check.same("25: 61", x.straps(61, 0), NONE);
        Check.same("25: -1", x.straps(-1, 0), NONE);
        Check.same("25: what 3", x.straps(0, 3), NONE);
        Check.same("25: what -1", x.straps(0, -1), NONE);
    }

    private static void fits() {
        SixCarry x = crew(new int[] {60, 62, 60, 61}, new int[] {200, 200, 200, 200});
        x.set(7, 0, 1);
        Check.same("27: all orders, KEPT or not", x.fits(0), 24);
        x.seen(1, 0);
        Check.same("27: 60 at place 1", x.fits(0), 12);
        x.seen(0, 67);
        Check.same("27: and 62 at place 0", x.fits(0), 4);
        int[] due = {1, 0, 2, 3};
        for (int p = 0; p < 4; p++) {
            Check.same("27: the first at " + p, x.fits(10 + p), due[p]);
        }
        x.seen(1, NONE);
        Check.same("27: 62 at place 0", x.fits(0), 6);
        x.seen(0, 68);
        Check.same("27: none", x.fits(0), 0);
        Check.same("27: no first", x.fits(10), NONE);
        Check.same("27: what 1", x.fits(1), NONE);
        Check.same("27: what 14", x.fits(14), NONE);
        Check.same("27: what -1", x.fits(-1), NONE);
        x.seen(0, NONE);
        x.set(9, 1, 50);
        Check.same("27: what is too much goes to the rest", x.fits(0), 24);
        x.set(9, 3, 30);
        Check.same("27: it would fall", x.fits(0), 0);
        x.bearer(60, 200, 0, 0);
        // Without 62 it falls by 61 who CAN 30; without 61 by 62 who CAN 50.
        Check.same("27: five", x.fits(0), 0);
        x.set(9, 1, 200);
        // 62 with 61: 67 and 33, so 3 too much for 61 go to 62; 62 with three of 60.
        Check.same("27: five, with 62", x.fits(0), 96);
        Check.same("27: the first", x.fits(13), 3);
    }

    private static void unseen() {
        SixCarry x = crew(new int[] {60, 60, 60, 60}, new int[] {60, 60, 30, 60});
        // 2 must not be one of the two that are left: he lets go with each of the others.
        Check.same("28: three couples", x.unseen(0), 3);
        Check.same("28: the first", x.unseen(1), 0);
        Check.same("28: and with him", x.unseen(2), 2);
        Check.same("28: what 3", x.unseen(3), NONE);
        Check.same("28: what -1", x.unseen(-1), NONE);
        x.set(0, 0, 130);
        Check.same("28: none", x.unseen(0), 0);
        Check.same("28: no first", x.unseen(1), NONE);
        Check.same("28: no second", x.unseen(2), NONE);
        x.set(0, 0, 60);
        x.place(0, NONE);
        // 1, 2, 3 are there: 2 with 1 leaves 3, 2 with 3 leaves 1, and 1 with 3 leaves 2, who CAN not.
        Check.same("28: couples of those who are there", x.unseen(0), 2);
        Check.same("28: the first of these", x.unseen(1), 1);
        Check.same("28: and with him", x.unseen(2), 2);
        x.place(2, NONE);
        Check.same("28: two alone can't both let go", x.unseen(0), 0);
        x.place(3, NONE);
        Check.same("28: one alone", x.unseen(0), 0);
        Check.same("28: no first with one alone", x.unseen(1), NONE);
    }

    private static void helps() {
        SixCarry x = crew(new int[] {60, 60, 60, 60, 60, 60, 60}, new int[] {30, 30, 50, 50, 20, 90, 90});
        Tape.text(x, 1, "tire 10;");
        // 25 each: as it is until two CAN less than 25 and it is too much for the rest.
        int as = x.far(0);
        int best = as;
        int place = NONE;
        int bearer = NONE;
        for (int p = 0; p < 4; p++) {
            for (int b = 4; b < 7; b++) {
                x.place(p, b);
                if (x.far(0) > best) {
                    best = x.far(0);
                    place = p;
                    bearer = b;
                }
                x.place(p, p);
            }
        }
        Check.same("29: the PLACE", place, 0);
        Check.same("29: the PLACE", x.helps(0), place);
        Check.same("29: the BEARER", x.helps(1), 5);
        Check.same("29: how far", x.helps(2), best);
        Check.yes("29: farther", best > as);
        Check.same("29: what 3", x.helps(3), NONE);
        Check.same("29: what -1", x.helps(-1), NONE);
        Check.same("29: nothing stays", x.at(0, 0), 0);
        Tape.text(x, 1, "tire 0;");
        Check.same("29: none goes farther", x.helps(0), NONE);
        Check.same("29: none goes farther", x.helps(2), NONE);
        SixCarry y = crew(new int[] {60, 60, 60, 60, 60}, new int[] {30, 30, 30, 30, 300});
        y.place(0, NONE);
        y.place(1, NONE);
        y.place(2, NONE);
        Check.same("29: where nobody is there is no change", y.helps(0), 3);
        Check.same("29: the least who stands aside and goes farther", y.helps(1), 4);
    }

    /** All that can be looked at is as before after every question. */
    private static void nothingStays() {
        SixCarry x = crew(new int[] {60, 62, 60, 61, 65}, new int[] {60, 90, 80, 70, 300});
        x.set(5, 0, 700);
        x.set(7, 1, 1);
        x.set(6, 2, 5);
        Tape.text(x, 2, "walk 3; rest 1; change 0 to 4; cloth 3 in 2; walk 9; gate 3; rest 1;");
        x.paces(2);
        String was = Edges.look(x);
        x.loads(0, 3);
        x.idle(-4, 0);
        x.order(0);
        x.dearest();
        x.cloths(0);
        x.far(2);
        x.line();
        x.gates();
        x.sways(7);
        x.sways(NONE);
        x.goes(2);
        x.rests();
        x.straps(9, 1);
        x.fits(0);
        x.unseen(0);
        x.helps(2);
        Check.yes("4: nothing of it stays", was.equals(Edges.look(x)));
        x.undo();
        x.undo();
        Check.same("4: and what can be undone is as it was", x.look(3), 0);
    }

    /** An answer that was kept must not outlive what it was thought of. */
    private static void keptAnswersAreFresh() {
        SixCarry x = crew(new int[] {60, 62, 60, 61, 61}, new int[] {200, 200, 200, 200, 200});
        Tape.text(x, 1, "tire 50;");
        Tape.text(x, 2, "cloth 0 in 3; walk 5;");
        for (int i = 0; i < 11; i++) {
            x.order(0);
            x.cloths(0);
            x.fits(0);
            x.helps(0);
            change(x, i);
            SixCarry fresh = crew(new int[] {60, 62, 60, 61, 61}, new int[] {200, 200, 200, 200, 200});
            Tape.text(fresh, 1, "tire 50;");
            Tape.text(fresh, 2, "cloth 0 in 3; walk 5;");
            for (int j = 0; j <= i; j++) {
                change(fresh, j);
            }
            for (int what : new int[] {0, 1, 10, 11, 12, 13}) {
                Check.same("16: after " + i, x.order(what), fresh.order(what));
                Check.same("18: after " + i, x.cloths(what), fresh.cloths(what));
                Check.same("27: after " + i, x.fits(what), fresh.fits(what));
                Check.same("29: after " + i, x.helps(what), fresh.helps(what));
            }
        }
    }

    private static void change(SixCarry x, int i) {
        switch (i) {
            case 0: x.set(9, 1, 60); break;
            case 1: x.place(0, 4); break;
            case 2: x.image(true); x.paces(1); break;
            case 3: x.undo(); break;
            case 4: x.seen(0, 0); break;
            case 5: x.bearer(50, 300, 0, 0); break;
            case 6: Tape.text(x, 0, "bear over + 1;"); break;
            case 7: Tape.text(x, 1, "tire 20;"); break;
            case 8: x.set(7, 2, 1); break;
            case 9: x.image(false); break;
            default: x.set(6, 2, 5); break;
        }
    }
}
