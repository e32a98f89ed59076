/** Promises 10, 13, 30 and 31: paces, THE BOOK, UNDO and THE IMAGE. */
public final class WalkTest {
    private static final int NONE = SixCarry.NONE;

    private WalkTest() { }

    public static void main(String[] args) {
        wrongPaces();
        linesAndPaces();
        mostPaces();
        withoutPace();
        tiringByNoLaw();
        tiringByLaw();
        slopes();
        gate();
        rest();
        changeAndCloth();
        placesThatAreNoMore();
        sway();
        falls();
        slips();
        slipWhereNobodyIs();
        bookIsFull();
        undo();
        whatForgets();
        image();
        imageOfTheBook();
        Check.close();
    }

    /** Two pairs, each of STRENGTH 200, nobody stepping wrongly, by hand: 100 pounds are 25 each. */
    private static SixCarry four() {
        SixCarry x = new SixCarry();
        x.set(1, 0, 2);
        x.set(0, 0, 100);
        x.set(2, 0, 1);
        for (int b = 0; b < 4; b++) {
            x.bearer(60, 200, 1 - b % 2, 0);
            x.place(b, b);
        }
        return x;
    }

    private static void wrongPaces() {
        SixCarry x = four();
        Tape.text(x, 2, "walk 5;");
        Check.same("10: 0", x.paces(0), NONE);
        Check.same("10: -1", x.paces(-1), NONE);
        Check.same("10: 201", x.paces(201), NONE);
        Check.same("10: greatest", x.paces(Integer.MAX_VALUE), NONE);
        Check.same("10: nothing is done", x.look(3), 0);
        Check.same("10: 200 may be asked", x.paces(200), 5);
        Check.same("10: no more", x.paces(1), 0);
        Check.same("10: PACE", x.look(3), 5);
    }

    private static void linesAndPaces() {
        SixCarry x = four();
        Tape.text(x, 2, "rest 1; walk 2; rest 2; gate 3; cloth 0 in 1; walk 1; rest 3; cloth 1 in 2;");
        Check.same("10: one", x.paces(1), 1);
        Check.same("10: the begun line counts", x.look(10), 7);
        Check.same("10: two", x.paces(1), 1);
        Check.same("10: a line that is done does not", x.look(10), 6);
        Check.same("10: three", x.paces(3), 3);
        Check.same("10: behind the gate", x.look(10), 4);
        Check.same("10: not yet", x.at(0, 1), 0);
        Check.same("10: the last", x.paces(9), 1);
        Check.same("10: all", x.look(10), 0);
        Check.same("10: ahead of it", x.at(0, 1), 1);
        Check.same("10: what stands behind the last is done with it", x.at(1, 1), 2);
        Check.same("10: rests", x.look(6), 3);
        Check.same("13: PACE of the first", x.book(0, 0), 0);
        Check.same("13: PACE of the second", x.book(1, 0), 2);
        Check.same("13: PACE of the third", x.book(2, 0), 6);
        Check.same("13: minutes", x.book(2, 2), 3);
        Check.same("13: line 3", x.book(3, 0), NONE - 1);
        Check.same("13: line -1", x.book(-1, 0), NONE - 1);
        Check.same("13: what 4", x.book(0, 4), NONE - 1);
        Check.same("13: what -1", x.book(0, -1), NONE - 1);
    }

    /** It takes more calls than an object is promised for, but PACE and n has no other way above 99999. */
    private static void mostPaces() {
        SixCarry x = new SixCarry();
        for (int i = 0; i < 62; i++) {
            Tape.text(x, 2, "walk 200;walk 200;walk 200;walk 200;walk 200;walk 200;walk 200;walk 200;");
            for (int j = 0; j < 8 && x.look(3) < 99800; j++) {
                Check.same("10: paces", x.paces(200), 200);
            }
        }
        Tape.text(x, 2, "walk 200;walk 200;walk 200;");
        for (int i = 0; i < 3 && x.look(3) < 99800; i++) {
            x.paces(200);
        }
        Check.same("10: PACE", x.look(3), 99800);
        Tape.text(x, 2, "walk 200;walk 200;");
        Check.same("10: PACE and n is above 99999", x.paces(200), NONE);
        Check.same("10: nothing is done", x.look(3), 99800);
        Check.same("10: not above", x.paces(199), 199);
        Check.same("10: PACE", x.look(3), 99999);
        Check.same("10: no more", x.paces(1), NONE);
    }

    private static void withoutPace() {
        SixCarry x = four();
        Check.same("10: no way", x.paces(1), 0);
        x.set(10, 0, 500);
        Tape.text(x, 2, "rest 1; cloth 0 in 3;");
        Check.same("10: none", x.paces(7), 0);
        Check.same("10: nothing is done", x.look(10), 2);
        Check.same("10: no rest", x.of(0, 4), 500);
        Check.same("10: no cloth", x.at(0, 1), 0);
        Check.same("10: nothing can be undone", x.look(11), 0);
    }

    private static void tiringByNoLaw() {
        SixCarry x = four();
        x.set(0, 0, 250);
        Tape.text(x, 2, "walk 9;");
        x.paces(1);
        // 250 among four: 62 each and one pound more for the first two; a twentieth, downwards.
        for (int b = 0; b < 4; b++) {
            Check.same("3: bears by 20", x.of(b, 4), 3);
        }
        x.set(10, 0, 999);
        x.set(9, 0, 300);
        Tape.text(x, 1, "tire 7 when pair = 1;");
        x.paces(1);
        Check.same("3: who CAN 0 is tired by 0", x.of(0, 4), 999);
        Check.same("3: 250 among three", x.of(1, 4), 7);
        Check.same("3: by the law", x.of(2, 4), 10);
        Check.same("3: by the law", x.of(3, 4), 10);
    }

    private static void tiringByLaw() {
        SixCarry x = four();
        Tape.text(x, 2, "walk 1; walk 1 gravel; walk 9;");
        Tape.text(x, 1, "tire bears * 3 + gravel when right = 0 and pair = 0; tire can when right = 1 and pair = 0; tire 3 - 5 when right = 0;"
            + " tire tall - 50 + strength / 100 + knee + tired + cloth + hands;");
        x.set(6, 3, 4);
        x.paces(1);
        Check.same("3: bears", x.of(0, 4), 75);
        Check.same("3: can, 99 at most", x.of(1, 4), 99);
        Check.same("3: 0 at least", x.of(2, 4), 0);
        Check.same("3: 10 + 2 + 0 + 0 + 4 + 1", x.of(3, 4), 17);
        x.paces(1);
        Check.same("3: gravel", x.of(0, 4), 75 + 76);
        Check.same("3: tired", x.of(3, 4), 17 + 34);
        Tape.text(x, 1, "tire 99;");
        x.set(10, 0, 950);
        x.set(0, 0, 10);
        x.paces(1);
        Check.same("3: 1000 at most", x.of(0, 4), 1000);
        Check.same("3: 99 more", x.of(2, 4), 99);
    }

    private static void slopes() {
        SixCarry x = four();
        x.set(2, 0, 0);
        Tape.text(x, 2, "walk 1 up 2; walk 1 down 3; walk 1;");
        Tape.text(x, 1, "tire up * 10 + down + bears;");
        x.paces(1);
        // Up 2 the pair in front is higher by 2, so it bears all: 50 each.
        Check.same("3: up in front", x.of(0, 4), 70);
        Check.same("3: up behind", x.of(2, 4), 20);
        x.paces(1);
        Check.same("3: down in front", x.of(1, 4), 73);
        Check.same("3: down behind", x.of(3, 4), 73);
        x.paces(1);
        Check.same("3: on the level all alike", x.of(1, 4), 98);
    }

    private static void gate() {
        SixCarry x = four();
        Tape.text(x, 1, "tire bears;");
        Tape.text(x, 2, "gate 3;");
        int[][] due = {{0, 50}, {0, 100}, {50, 100}};
        // Of three paces pair 0 lets go in 0 * 2 / 3 and 1 * 2 / 3, pair 1 in 2 * 2 / 3.
        for (int k = 0; k < 3; k++) {
            x.paces(1);
            Check.same("3: in front in pace " + k, x.of(0, 4), due[k][0]);
            Check.same("3: behind in pace " + k, x.of(2, 4), due[k][1]);
        }
        SixCarry y = four();
        Tape.text(y, 2, "gate 2;");
        y.place(0, NONE);
        y.place(1, NONE);
        y.paces(2);
        Check.same("3: nobody HOLDS", y.look(4), 1);
        Check.same("13: it fell in the second pace", y.book(0, 0), 1);
    }

    private static void rest() {
        SixCarry x = four();
        x.bearer(60, 100, 0, 0);
        x.set(10, 4, 1000);
        x.set(10, 0, 250);
        Tape.text(x, 1, "tire 0;");
        Tape.text(x, 2, "rest 3; walk 1;");
        x.paces(1);
        Check.same("3: aside, too", x.of(4, 4), 700);
        Check.same("3: 0 at least", x.of(0, 4), 0);
        Check.same("13: what", x.book(0, 1), 3);
        Check.same("13: minutes", x.book(0, 2), 3);
        Check.same("13: nobody", x.book(0, 3), NONE);
    }

    private static void changeAndCloth() {
        SixCarry x = four();
        x.bearer(61, 100, 0, 0);
        Tape.text(x, 2, "change 1 to 4; change 3 to 0; change 3 to 0; cloth 2 in 6; walk 1;");
        x.paces(1);
        Check.same("3: he came", x.at(1, 0), 4);
        Check.same("3: who was there stands aside", x.of(1, 6), NONE);
        Check.same("3: he leaves his own", x.at(0, 0), NONE);
        Check.same("3: he is there", x.of(0, 6), 3);
        Check.same("3: the CLOTH", x.at(2, 1), 6);
        Check.same("13: lines", x.look(6), 3);
        Check.same("13: what", x.book(0, 1), 2);
        Check.same("13: the PLACE", x.book(0, 2), 1);
        Check.same("13: the BEARER", x.book(0, 3), 4);
        Check.same("13: a change to who is there", x.book(2, 3), 0);
    }

    private static void placesThatAreNoMore() {
        SixCarry x = new SixCarry();
        x.bearer(60, 300, 0, 0);
        Tape.text(x, 2, "change 5 to 0; cloth 5 in 6; walk 1;");
        x.set(1, 0, 2);
        x.set(0, 0, 100);
        x.place(1, 0);
        Check.same("3: a pace", x.paces(1), 1);
        Check.same("3: he stays", x.of(0, 6), 1);
        Check.same("3: nothing in THE BOOK", x.look(6), 0);
        x.set(1, 0, 3);
        Check.same("3: no CLOTH", x.at(5, 1), 0);
    }

    private static void sway() {
        SixCarry x = new SixCarry();
        x.set(1, 0, 2);
        x.set(0, 0, 100);
        x.set(2, 0, 1);
        for (int b = 0; b < 4; b++) {
            x.bearer(60, 200, b % 2, 0);
            x.place(b, b);
        }
        Tape.text(x, 1, "tire sway;");
        Tape.text(x, 2, "walk 3; gate 2; walk 200;");
        // All four step wrongly: 4, 4 / 2 + 4, 6 / 2 + 4; in the gate two: 7 / 2 + 2, 5 / 2 + 2.
        int[] due = {4, 6, 7, 5, 4};
        for (int want : due) {
            x.paces(1);
            Check.same("3: SWAY", x.look(5), want);
        }
        Check.same("3: SWAY ahead of each pace tires: 0 + 4 + 6, and 5", x.of(0, 4), 15);
        Check.same("3: and 7 instead of 5", x.of(2, 4), 17);
        Tape.text(x, 1, "tire 0;");
        x.set(3, 0, 200);
        x.paces(20);
        Check.same("3: 999 at most", x.look(5), 999);
        x.set(3, 0, 0);
        x.paces(1);
        Check.same("3: nothing is left of it", x.look(5), 4);
    }

    private static void falls() {
        SixCarry x = new SixCarry();
        x.set(1, 0, 2);
        x.set(0, 0, 100);
        x.set(4, 0, 30);
        x.bearer(60, 110, 0, 0);
        x.bearer(60, 110, 0, 0);
        x.place(0, 0);
        x.set(10, 1, 500);
        Tape.text(x, 2, "walk 9;");
        Tape.text(x, 1, "tire 50;");
        x.paces(2);
        Check.same("3: he CAN 104, then 99", x.of(0, 5), 99);
        Check.same("3: sway", x.look(5), 1);
        x.paces(1);
        Check.same("3: it falls", x.look(4), 1);
        Check.same("3: a PACE all the same", x.look(3), 3);
        Check.same("3: SWAY is 0", x.look(5), 0);
        x.undo();
        Check.same("30: FALLS goes back", x.look(4), 0);
        Check.same("30: SWAY goes back", x.look(5), 1);
        x.paces(1);
        Check.same("3: he rests", x.of(0, 4), 70);
        Check.same("3: who stands aside, too", x.of(1, 4), 470);
        Check.same("13: its PACE", x.book(0, 0), 2);
        Check.same("13: what", x.book(0, 1), 0);
        Check.same("13: 0", x.book(0, 2), 0);
        Check.same("13: nobody", x.book(0, 3), NONE);
        x.paces(1);
        Check.same("3: it is carried again", x.of(0, 4), 120);
    }

    private static int next(int state) {
        return state * 1664525 + 1013904223;
    }

    private static void slips() {
        SixCarry x = four();
        x.set(5, 0, 300);
        x.state(12345);
        Tape.text(x, 1, "tire bears;");
        Tape.text(x, 2, "walk 20; walk 20 gravel;");
        int state = 12345;
        int booked = 0;
        for (int k = 0; k < 40; k++) {
            for (int b = 0; b < 4; b++) {
                x.set(10, b, 0);
            }
            int letGo = NONE;
            state = next(state);
            if ((state >>> 8) % 1000 < (k < 20 ? 300 : 600)) {
                state = next(state);
                letGo = (state >>> 8) % 4;
            }
            x.paces(1);
            Check.same("3: STATE", x.look(7), state);
            for (int b = 0; b < 4; b++) {
                int due = letGo == NONE ? 25 : b == letGo ? 0 : 33;
                int least = letGo == 0 ? 1 : 0;
                Check.same("3: tired", x.of(b, 4), due + (letGo != NONE && b == least ? 1 : 0));
            }
            if (letGo != NONE) {
                Check.same("13: PACE of a slip", x.book(booked, 0), k);
                Check.same("13: a slip", x.book(booked, 1), 1);
                Check.same("13: its PLACE", x.book(booked, 2), letGo);
                Check.same("13: its BEARER", x.book(booked, 3), letGo);
                booked++;
            }
        }
        Check.yes("3: there were some", booked > 5 && booked < 35);
        Check.same("13: no more lines", x.look(6), booked);
    }

    private static void slipWhereNobodyIs() {
        SixCarry x = new SixCarry();
        x.bearer(60, 300, 0, 0);
        x.set(0, 0, 1);
        x.set(5, 0, 1000);
        x.place(0, 0);
        Tape.text(x, 2, "walk 60;");
        int state = 0;
        int slips = 0;
        for (int k = 0; k < 60; k++) {
            state = next(next(state));
            slips += (state >>> 8) % 6 == 0 ? 1 : 0;
        }
        x.paces(60);
        Check.same("3: two draws each", x.look(7), state);
        Check.same("3: it falls if he slips", x.look(4), slips);
        Check.same("13: a slip and a fall each", x.look(6), 2 * slips);
    }

    private static void bookIsFull() {
        SixCarry x = new SixCarry();
        Tape.text(x, 2, "walk 200;");
        x.paces(149);
        Check.same("3: 149 falls", x.look(6), 149);
        x.paces(3);
        Check.same("3: 150 lines", x.look(6), 150);
        Check.same("3: falls go on", x.look(4), 152);
        Check.same("13: the last", x.book(149, 0), 149);
        Check.same("13: no more", x.book(150, 0), NONE - 1);
        for (int i = 0; i < 3; i++) {
            x.undo();
        }
        Check.same("30: a line goes back", x.look(6), 149);
    }

    private static void undo() {
        SixCarry x = four();
        x.bearer(70, 200, 0, 0);
        x.set(5, 0, 500);
        x.set(10, 0, 100);
        Tape.text(x, 2, "walk 1; rest 1; change 0 to 4; cloth 1 in 3; walk 7; rest 1; cloth 2 in 1;");
        Check.no("30: nothing yet", x.undo());
        x.paces(1);
        int state = x.look(7);
        int tired = x.of(0, 4);
        int lines = x.look(6);
        int sway = x.look(5);
        x.paces(1);
        Check.same("30: two", x.look(11), 2);
        Check.yes("30: one back", x.undo());
        Check.same("30: STATE", x.look(7), state);
        Check.same("30: TIRED", x.of(0, 4), tired);
        Check.same("30: THE BOOK", x.look(6), lines);
        Check.same("30: SWAY", x.look(5), sway);
        Check.same("30: PACE", x.look(3), 1);
        Check.same("30: who was there", x.at(0, 0), 0);
        Check.same("30: the CLOTH", x.at(1, 1), 0);
        Check.same("30: the way", x.look(10), 6);
        Check.same("30: one is left", x.look(11), 1);
        Check.same("30: on to the end", x.paces(20), 7);
        Check.same("30: six are kept", x.look(11), 6);
        Check.same("30: behind the last", x.at(2, 1), 1);
        Check.yes("30: the last", x.undo());
        Check.same("30: what stands behind it goes back, too", x.at(2, 1), 0);
        Check.same("30: the rest of the way", x.look(10), 3);
        for (int i = 0; i < 5; i++) {
            Check.yes("30: back", x.undo());
        }
        Check.no("30: no seventh", x.undo());
        Check.same("30: PACE", x.look(3), 2);
        Check.same("30: on again", x.paces(20), 6);
    }

    private static void whatForgets() {
        for (int i = 0; i < 16; i++) {
            SixCarry x = four();
            x.image(true);
            Tape.text(x, 2, "walk 9;");
            x.paces(3);
            boolean forgets = tell(x, i);
            Check.same("30: " + i + (forgets ? " forgets" : " does not forget"), x.look(11), forgets ? 0 : 3);
            Check.same("30: undo after " + i, x.undo() ? 1 : 0, forgets ? 0 : 1);
        }
    }

    private static boolean tell(SixCarry x, int i) {
        switch (i) {
            case 0: x.state(x.look(7)); return true;
            case 1: x.bearer(60, 1, 0, 0); return true;
            case 2: x.set(0, 0, 100); return true;
            case 3: x.set(6, 0, 0); return true;
            case 4: x.set(9, 0, 100); return true;
            case 5: x.place(0, 0); return true;
            case 6: Tape.text(x, 2, "walk 1;"); return true;
            case 7: x.image(false); return true;
            case 8: Tape.text(x, 0, "bear 1;"); return false;
            case 9: Tape.text(x, 1, "tire 1;"); return false;
            case 10: x.seen(0, 5); return false;
            case 11: x.image(true); return false;
            case 12: x.set(0, 0, 0); return false;
            case 13: x.bearer(0, 0, 0, 0); return false;
            case 14: x.place(9, 0); x.paces(0); return false;
            default: Tape.text(x, 2, "walk 1; foo"); return false;
        }
    }

    private static void imageOfTheBook() {
        SixCarry x = four();
        Tape.text(x, 2, "rest 1; change 0 to 2; walk 1; rest 2; walk 1;");
        x.paces(2);
        x.image(true);
        for (int round = 0; round < 2; round++) {
            x.undo();
            x.undo();
            Tape.text(x, 2, "rest 7; rest 8; rest 9; rest 10; walk 1;");
            x.paces(1);
            Check.yes("31: back", x.image(false));
            int[][] due = {{0, 3, 1, NONE}, {0, 2, 0, 2}, {1, 3, 2, NONE}};
            Check.same("31: lines", x.look(6), 3);
            for (int i = 0; i < 3; i++) {
                for (int what = 0; what < 4; what++) {
                    Check.same("31: line " + i + " of THE BOOK, " + what, x.book(i, what), due[i][what]);
                }
            }
        }
    }

    private static void image() {
        SixCarry x = four();
        Check.no("31: none", x.image(false));
        Tape.text(x, 0, "bear 1;");
        Tape.text(x, 1, "tire bears;");
        Tape.text(x, 2, "rest 1; walk 9;");
        x.set(5, 0, 1);
        x.set(6, 1, 2);
        x.set(7, 1, 1);
        x.set(8, 1, 3);
        x.seen(1, 25);
        x.place(0, 1);
        x.place(1, 0);
        x.paces(2);
        int state = x.look(7);
        Check.yes("31: taken", x.image(true));
        for (int round = 0; round < 2; round++) {
            x.paces(3);
            x.state(5);
            x.bearer(50, 50, 0, 0);
            x.set(0, 0, 77);
            x.set(2, 0, 0);
            x.set(3, 0, 3);
            x.set(4, 0, 4);
            x.set(5, 0, 0);
            x.set(9, 2, 9);
            x.set(10, 2, 10);
            x.set(1, 0, 4);
            Tape.text(x, 0, "bear 1; bear 2; bear 3;");
            Tape.text(x, 1, "");
            Tape.text(x, 2, "rest 1; rest 1; rest 1; walk 5;");
            x.paces(3);
            Tape.text(x, 0, "bear 1 / 0;");
            x.feed(0, 0, 0, 0, 0);
            Check.yes("31: gone back to", x.image(false));
            Check.same("31: the FAULT stays", x.fault(0), 2);
            Check.yes("31: the TAPE stays", x.end(20));
            x.end(0);
            int[] whats = {0, 1, 2, 3, 4, 5, 6, 7, 8, 9, 10, 11, 20, 21, 22, 23};
            int[] due = {100, 2, 4, 2, 0, 3, 1, state, 1, 1, 1, 0, 1, 50, 100, 1};
            for (int i = 0; i < whats.length; i++) {
                Check.same("31: look " + whats[i], x.look(whats[i]), due[i]);
            }
            Check.same("31: who", x.at(1, 0), 0);
            Check.same("31: CLOTH", x.at(1, 1), 2);
            Check.same("31: KEPT", x.at(1, 2), 1);
            Check.same("31: SPEED", x.at(1, 3), 3);
            Check.same("31: SEEN", x.at(1, 4), 25);
            Check.same("31: STRENGTH", x.of(2, 1), 200);
            Check.same("31: TIRED", x.of(2, 4), 50);
            Check.same("31: THE BOOK", x.book(0, 1), 3);
            Check.no("31: nothing can be undone", x.undo());
        }
        Check.same("31: all goes on", x.paces(20), 7);
    }
}
