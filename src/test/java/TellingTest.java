/** Promises 1 to 5, 11, 12, 26 and 32: what is told and looked at. */
public final class TellingTest {
    private static final int NONE = SixCarry.NONE;

    private TellingTest() { }

    public static void main(String[] args) {
        newObject();
        state();
        bearer();
        setLoad();
        setPairs();
        setPlaces();
        setBearers();
        place();
        of();
        at();
        seen();
        look();
        Check.close();
    }

    private static void newObject() {
        SixCarry x = new SixCarry();
        Check.same("1: PAIRS", x.look(1), 3);
        for (int p = 0; p < 6; p++) {
            Check.same("1: nobody", x.at(p, 0), NONE);
        }
        Check.same("1: no seventh place", x.at(6, 0), NONE - 1);
        Check.same("1: NONE", SixCarry.NONE, -1);
        for (int what : new int[] {2, 3, 4, 5, 6, 7, 8, 9, 10, 11, 20, 23}) {
            Check.same("1: look " + what, x.look(what), 0);
        }
    }

    private static void state() {
        SixCarry x = new SixCarry();
        Check.same("2: at first", x.state(Integer.MIN_VALUE), 0);
        Check.same("2: what it was", x.state(-7), Integer.MIN_VALUE);
        Check.same("2: look", x.look(7), -7);
    }

    private static void bearer() {
        SixCarry x = new SixCarry();
        Check.same("3: too small", x.bearer(39, 0, 0, 0), NONE);
        Check.same("3: too tall", x.bearer(81, 0, 0, 0), NONE);
        Check.same("3: too weak", x.bearer(40, -1, 0, 0), NONE);
        Check.same("3: too strong", x.bearer(40, 301, 0, 0), NONE);
        Check.same("3: foot -1", x.bearer(40, 0, -1, 0), NONE);
        Check.same("3: foot 2", x.bearer(40, 0, 2, 0), NONE);
        Check.same("3: knee -1", x.bearer(40, 0, 0, -1), NONE);
        Check.same("3: knee 2", x.bearer(40, 0, 0, 2), NONE);
        Check.same("3: none came", x.look(2), 0);
        Check.same("3: least", x.bearer(40, 0, 0, 0), 0);
        Check.same("3: most", x.bearer(80, 300, 1, 1), 1);
        for (int b = 2; b < 8; b++) {
            Check.same("3: number", x.bearer(60, 100, 0, 1), b);
        }
        Check.same("3: a ninth", x.bearer(60, 100, 0, 1), NONE);
        Check.same("3: eight", x.look(2), 8);
    }

    private static void setLoad() {
        int[] least = {1, 2, 0, 0, 0, 0};
        int[] most = {999, 4, 1, 200, 1000, 1000};
        int[] shown = {0, 1, 20, 21, 22, 23};
        SixCarry x = new SixCarry();
        for (int what = 0; what < 6; what++) {
            Check.yes("4: least of " + what, x.set(what, -99, least[what]));
            Check.same("4: it is the least", x.look(shown[what]), least[what]);
            Check.no("4: less of " + what, x.set(what, 0, least[what] - 1));
            Check.yes("4: most of " + what, x.set(what, 99, most[what]));
            Check.no("4: more of " + what, x.set(what, 0, most[what] + 1));
            Check.no("4: far less", x.set(what, 0, Integer.MIN_VALUE));
            Check.no("4: far more", x.set(what, 0, Integer.MAX_VALUE));
            Check.same("4: it is the most", x.look(shown[what]), most[what]);
        }
        Check.no("4: what -1", x.set(-1, 0, 1));
        Check.no("4: what 11", x.set(11, 0, 1));
    }

    private static void setPairs() {
        SixCarry x = new SixCarry();
        x.bearer(60, 100, 0, 0);
        x.set(10, 0, 17);
        x.place(5, 0);
        x.set(6, 5, 4);
        x.set(7, 5, 1);
        x.set(8, 5, 9);
        x.seen(5, 3);
        Check.yes("4: the same PAIRS", x.set(1, 0, 3));
        int[] first = {NONE, 0, 0, 1, NONE, NONE};
        for (int what = 0; what < 6; what++) {
            Check.same("4: a PLACE is as at first, " + what, x.at(5, what), first[what]);
        }
        Check.same("4: he stands aside", x.of(0, 6), NONE);
        Check.same("4: and is as tired", x.of(0, 4), 17);
        Check.yes("4: two pairs", x.set(1, 0, 2));
        Check.same("4: four places", x.at(4, 0), NONE - 1);
        Check.same("4: the fourth", x.at(3, 3), 1);
        Check.yes("4: four pairs", x.set(1, 0, 4));
        Check.same("4: eight places", x.at(7, 3), 1);
        Check.same("4: no ninth", x.at(8, 3), NONE - 1);
    }

    private static void setPlaces() {
        int[] least = {0, 0, 1};
        int[] most = {6, 1, 9};
        SixCarry x = new SixCarry();
        for (int i = 0; i < 3; i++) {
            Check.yes("4: least", x.set(6 + i, 0, least[i]));
            Check.same("4: it is the least", x.at(0, 1 + i), least[i]);
            Check.no("4: less", x.set(6 + i, 0, least[i] - 1));
            Check.yes("4: most", x.set(6 + i, 5, most[i]));
            Check.no("4: more", x.set(6 + i, 5, most[i] + 1));
            Check.same("4: it is the most", x.at(5, 1 + i), most[i]);
            Check.no("4: place -1", x.set(6 + i, -1, 1));
            Check.no("4: place 6", x.set(6 + i, 6, 1));
        }
    }

    private static void setBearers() {
        SixCarry x = new SixCarry();
        Check.no("4: no bearer", x.set(9, 0, 1));
        Check.no("4: no bearer", x.set(10, 0, 1));
        x.bearer(60, 100, 0, 0);
        Check.no("4: bearer 1", x.set(9, 1, 1));
        Check.no("4: bearer -1", x.set(10, -1, 1));
        Check.yes("4: STRENGTH 0", x.set(9, 0, 0));
        Check.no("4: STRENGTH -1", x.set(9, 0, -1));
        Check.yes("4: STRENGTH 300", x.set(9, 0, 300));
        Check.no("4: STRENGTH 301", x.set(9, 0, 301));
        Check.same("4: STRENGTH", x.of(0, 1), 300);
        Check.yes("4: TIRED 0", x.set(10, 0, 0));
        Check.no("4: TIRED -1", x.set(10, 0, -1));
        Check.yes("4: TIRED 1000", x.set(10, 0, 1000));
        Check.no("4: TIRED 1001", x.set(10, 0, 1001));
        Check.same("4: TIRED", x.of(0, 4), 1000);
        Check.same("4: he CAN nothing", x.of(0, 5), 0);
    }

    private static void place() {
        SixCarry x = new SixCarry();
        x.bearer(60, 100, 0, 0);
        x.bearer(61, 100, 0, 0);
        Check.no("5: place -1", x.place(-1, 0));
        Check.no("5: place 6", x.place(6, 0));
        Check.no("5: bearer 2", x.place(0, 2));
        Check.no("5: bearer -2", x.place(0, -2));
        Check.yes("5: he is there", x.place(0, 0));
        Check.yes("5: he is there still", x.place(0, 0));
        Check.same("5: of", x.of(0, 6), 0);
        Check.same("5: at", x.at(0, 0), 0);
        Check.yes("5: another", x.place(3, 1));
        Check.yes("5: he goes over", x.place(3, 0));
        Check.same("5: he left his own", x.at(0, 0), NONE);
        Check.same("5: he is at 3", x.at(3, 0), 0);
        Check.same("5: who was there stands aside", x.of(1, 6), NONE);
        Check.yes("5: nobody", x.place(3, NONE));
        Check.same("5: nobody is there", x.at(3, 0), NONE);
        Check.same("5: nothing in THE BOOK", x.look(6), 0);
    }

    private static void of() {
        SixCarry x = new SixCarry();
        x.bearer(63, 250, 1, 0);
        x.bearer(64, 251, 0, 1);
        x.set(10, 1, 333);
        x.place(4, 1);
        int[] first = {63, 250, 1, 0, 0, 250, NONE, NONE - 1};
        int[] second = {64, 251, 0, 1, 333, 251 * 667 / 1000, 4, NONE - 1};
        for (int what = 0; what < 8; what++) {
            Check.same("11: first " + what, x.of(0, what), first[what]);
            Check.same("11: second " + what, x.of(1, what), second[what]);
        }
        Check.same("11: what -1", x.of(0, -1), NONE - 1);
        Check.same("11: bearer 2", x.of(2, 0), NONE - 1);
        Check.same("11: bearer -1", x.of(-1, 0), NONE - 1);
    }

    private static void at() {
        SixCarry x = new SixCarry();
        x.bearer(63, 250, 1, 0);
        x.place(2, 0);
        x.set(6, 2, 5);
        x.set(7, 2, 1);
        x.set(8, 2, 7);
        x.seen(2, 0);
        int[] due = {0, 5, 1, 7, 0, 68, NONE - 1};
        for (int what = 0; what < 7; what++) {
            Check.same("12: at " + what, x.at(2, what), due[what]);
        }
        x.place(2, NONE);
        Check.same("12: no TOP", x.at(2, 5), NONE);
        Check.same("12: what -1", x.at(2, -1), NONE - 1);
        Check.same("12: place -1", x.at(-1, 0), NONE - 1);
        Check.same("12: place 6", x.at(6, 0), NONE - 1);
    }

    private static void seen() {
        SixCarry x = new SixCarry();
        Check.yes("26: 999", x.seen(5, 999));
        Check.same("26: it was seen", x.at(5, 4), 999);
        Check.no("26: 1000", x.seen(5, 1000));
        Check.no("26: -2", x.seen(5, -2));
        Check.no("26: place 6", x.seen(6, 1));
        Check.no("26: place -1", x.seen(-1, 1));
        Check.same("26: it stays", x.at(5, 4), 999);
        Check.yes("26: none", x.seen(5, NONE));
        Check.same("26: none was seen", x.at(5, 4), NONE);
    }

    private static void look() {
        SixCarry x = new SixCarry();
        Tape.text(x, 0, "bear 1; bear 2;");
        Tape.text(x, 1, "tire 1;");
        Tape.text(x, 2, "rest 1; walk 2; rest 2;");
        x.set(3, 0, 7);
        x.set(4, 0, 8);
        x.set(5, 0, 1);
        x.set(2, 0, 1);
        Check.same("32: POUNDS", x.look(0), 400);
        Check.same("32: lines of bearing", x.look(8), 2);
        Check.same("32: lines of tiring", x.look(9), 1);
        Check.same("32: lines of the way", x.look(10), 3);
        Check.same("32: HANDS", x.look(20), 1);
        Check.same("32: LOOSE", x.look(21), 7);
        Check.same("32: EASE", x.look(22), 8);
        Check.same("32: SLIP", x.look(23), 1);
        x.paces(1);
        Check.same("32: PACE", x.look(3), 1);
        Check.same("32: FALLS", x.look(4), 1);
        Check.same("32: SWAY", x.look(5), 0);
        Check.same("32: the book", x.look(6), 2);
        Check.same("32: STATE", x.look(7), 1013904223);
        Check.same("32: a line that is begun", x.look(10), 2);
        Check.same("32: can be undone", x.look(11), 1);
        for (int what : new int[] {-1, 12, 13, 19, 24, Integer.MIN_VALUE, Integer.MAX_VALUE}) {
            Check.same("32: what " + what, x.look(what), NONE);
        }
    }
}
