/** Promises 6 to 9: the TAPE, the TEXTS and their FAULTS. */
public final class TextTest {
    private static final int NONE = SixCarry.NONE;

    private TextTest() { }

    public static void main(String[] args) {
        feedAndEnd();
        bytes();
        goodTexts();
        tapeIsEmpty();
        cannotStand();
        words();
        beyond();
        tooMany();
        firstByPlace();
        staysAsItWas();
        values();
        conditions();
        longest();
        Check.close();
    }

    private static void feedAndEnd() {
        SixCarry x = new SixCarry();
        for (int i = 1; i <= 20; i++) {
            Check.same("6: how many", x.feed(0, 0, 0, 0, 0), 20 * i);
        }
        Check.same("6: no more than 400", x.feed(0, 0, 0, 0, 0), NONE);
        Check.yes("7: all", x.end(400));
        Check.no("7: not so many", x.end(401));
        Check.no("7: below 0", x.end(-1));
        Check.yes("7: 381", x.end(381));
        Check.same("6: 401 would be more", x.feed(0, 0, 0, 0, 0), NONE);
        Check.yes("7: 380", x.end(380));
        Check.no("7: 381 are gone", x.end(381));
        Check.same("6: 400 are as many", x.feed(0, 0, 0, 0, 0), 400);
        Check.yes("7: none", x.end(0));
        Check.same("6: from the beginning", x.feed(0, 0, 0, 0, 0), 20);
    }

    private static void bytes() {
        SixCarry x = new SixCarry();
        x.feed(0x62656172, 0x20310a3b, 0x62656172, 0x20203220, 0x3b206265);
        x.feed(0x61722033, 0x3b000000, 0, 0, 0);
        Check.yes("7: end", x.end(25));
        Check.same("6: the highest first", x.text(0), 3);
        fails(x, 0, "bear 1\t;", 1, 6);
        fails(x, 0, "bear 1;\r", 1, 7);
        fails(x, 0, "bear \u00e9;", 1, 5);
        fails(x, 0, "bear\0 1;", 1, 4);
    }

    private static void goodTexts() {
        SixCarry x = new SixCarry();
        x.bearer(60, 100, 0, 0);
        String[] bearing = {"", "  \n", "bear 1;", "bear1when1<2;", "bear 0 ; bear 9999 when not ( 1 = 1 ) ;",
            "bear tall + strength - knee * tired / 3 + cloth * pair * right - up + down - hands * over ;",
            "bear 1 when 1 < 2 and 2 > 1 or 3 = 3 and not not (1 < 2 or 1 > 2) ;",
            "bear 1 when (((((((( 1 < 2 )))))))) ; bear 2 when not not not not ((((1=1)))) and (1=1);"};
        int[] lines = {0, 0, 1, 1, 2, 1, 1, 2};
        for (int i = 0; i < bearing.length; i++) {
            good(x, 0, bearing[i], lines[i]);
        }
        good(x, 1, "tire bears * can + gravel - sway + tall - hands when bears > 3;", 1);
        good(x, 2, "walk 1; walk 200 up 1; walk 2 down 9; walk 3 gravel; walk 4 up 9 gravel ;walk 5 down 1 gravel;", 6);
        good(x, 2, "gate 1; gate 200; rest 1; rest 99; change 0 to 0; change 5 to 0; cloth 0 in 0; cloth 5 in 6;", 8);
        good(x, 2, "walk 0001;rest 099;", 2);
        good(x, 0, repeat("bear 1;", 16), 16);
        good(x, 2, repeat("rest 1;", 40), 40);
        good(x, 2, "", 0);
        Check.same("8: no lines are left", x.look(10), 0);
        Check.same("8: k 3", x.text(3), NONE);
        Check.same("9: of no such one", x.fault(0), 0);
        Check.same("9: of no such one", x.fault(1), NONE);
        Check.same("8: k -1", x.text(-1), NONE);
    }

    private static void tapeIsEmpty() {
        SixCarry x = new SixCarry();
        for (int k = -1; k <= 3; k++) {
            Tape.feed(x, "bear 1; tire 1; walk 1;");
            x.text(k);
            Check.no("8: the TAPE is empty then", x.end(1));
        }
        fails(x, 0, "x", 1, 0);
        x.text(7);
        Check.same("9: no such one tells 0", x.fault(0), 0);
        Check.same("9: what 2", x.fault(2), NONE);
        Check.same("9: what -1", x.fault(-1), NONE);
    }

    private static void cannotStand() {
        SixCarry x = new SixCarry();
        x.bearer(60, 100, 0, 0);
        fails(x, 0, "bear", 1, 4);
        fails(x, 0, "bear 1", 1, 6);
        fails(x, 0, "bear 1  \n", 1, 9);
        fails(x, 0, ";", 1, 0);
        fails(x, 0, "bear ;", 1, 5);
        fails(x, 0, "bear - 1;", 1, 5);
        fails(x, 0, "bear (1);", 1, 5);
        fails(x, 0, "bear 1 2;", 1, 7);
        fails(x, 0, "bear 1 / tall;", 1, 9);
        fails(x, 0, "bear 1 * / 2;", 1, 9);
        fails(x, 0, "bear 1 when 1;", 1, 13);
        fails(x, 0, "bear 1 when 1 < 2 < 3;", 1, 18);
        fails(x, 0, "bear 1 when (1 + 2) * 3 > 4;", 1, 18);
        fails(x, 0, "bear 1 when (1 < 2;", 1, 18);
        fails(x, 0, "bear 1 when 1 < 2);", 1, 17);
        fails(x, 0, "bear 1 when not;", 1, 15);
        fails(x, 0, "bear 1 when 1 < 2 and;", 1, 21);
        fails(x, 0, "bear 1 when 1 < 2 or or 1 = 1;", 1, 21);
        fails(x, 0, "bear 1;;", 1, 7);
        fails(x, 0, "bear 1 ! 2;", 1, 7);
        fails(x, 2, "walk;", 1, 4);
        fails(x, 2, "walk 2 up;", 1, 9);
        fails(x, 2, "walk 2 up 1 down 1;", 1, 12);
        fails(x, 2, "walk 2 gravel up 1;", 1, 14);
        fails(x, 2, "gate 2 gravel;", 1, 7);
        fails(x, 2, "change 0 in 0;", 1, 9);
        fails(x, 2, "cloth 0 to 0;", 1, 8);
        fails(x, 2, "cloth 0 in;", 1, 10);
        fails(x, 2, "rest 1", 1, 6);
        fails(x, 2, "up 1;", 1, 0);
    }

    private static void words() {
        SixCarry x = new SixCarry();
        fails(x, 0, "bears 1;", 1, 0);
        fails(x, 0, "bea 1;", 1, 0);
        fails(x, 0, "Bear 1;", 1, 0);
        fails(x, 0, "bearX 1;", 1, 0);
        fails(x, 0, "bear tallx;", 1, 5);
        fails(x, 0, "bear bears;", 1, 5);
        fails(x, 0, "bear can;", 1, 5);
        fails(x, 0, "bear gravel;", 1, 5);
        fails(x, 0, "bear sway;", 1, 5);
        fails(x, 0, "bear walk;", 1, 5);
        fails(x, 0, "tire 1;", 1, 0);
        fails(x, 1, "bear 1;", 1, 0);
        fails(x, 1, "tire over;", 1, 5);
        fails(x, 2, "bear 1;", 1, 0);
        fails(x, 0, "bear 12345;", 1, 5);
        fails(x, 0, "bear 00001;", 1, 5);
        fails(x, 0, "bear 1 / 00000;", 1, 9);
    }

    private static void beyond() {
        SixCarry x = new SixCarry();
        fails(x, 0, "bear 1 / 0;", 2, 9);
        fails(x, 0, "bear 1 / 0000;", 2, 9);
        fails(x, 0, "bear 1 when 1 < 2 / 0;", 2, 20);
        fails(x, 2, "walk 0;", 2, 5);
        fails(x, 2, "walk 201;", 2, 5);
        fails(x, 2, "walk 1 up 0;", 2, 10);
        fails(x, 2, "walk 1 up 10;", 2, 10);
        fails(x, 2, "walk 1 down 0;", 2, 12);
        fails(x, 2, "walk 1 down 10;", 2, 12);
        fails(x, 2, "gate 0;", 2, 5);
        fails(x, 2, "gate 201;", 2, 5);
        fails(x, 2, "rest 0;", 2, 5);
        fails(x, 2, "rest 100;", 2, 5);
        fails(x, 2, "cloth 0 in 7;", 2, 11);
        fails(x, 2, "cloth 6 in 0;", 2, 6);
        fails(x, 2, "change 6 to 0;", 2, 7);
        fails(x, 2, "change 0 to 0;", 2, 12);
        x.bearer(60, 100, 0, 0);
        good(x, 2, "change 0 to 0;", 1);
        fails(x, 2, "change 0 to 1;", 2, 12);
        x.set(1, 0, 2);
        fails(x, 2, "change 4 to 0;", 2, 7);
        x.set(1, 0, 4);
        good(x, 2, "change 7 to 0;", 1);
    }

    private static void tooMany() {
        SixCarry x = new SixCarry();
        fails(x, 0, repeat("bear 1;", 16) + " bear 1;", 3, 113);
        fails(x, 1, repeat("tire 1;", 17), 3, 112);
        fails(x, 2, repeat("rest 1;", 41), 3, 280);
        fails(x, 0, repeat("bear 1;", 16) + "tire", 1, 112);
        fails(x, 2, repeat("rest 1;", 40) + "5", 1, 280);
        fails(x, 0, "bear 1 when (((((((((1=1))))))))); ", 3, 20);
        fails(x, 0, "bear 1 when not(not(not(not(not", 3, 28);
        fails(x, 0, "bear 1 when ((((((((1=1)))))))) and ((((((((not", 3, 44);
        good(x, 0, "bear 1 when (1=1) and (1=1) and (1=1) and (1=1) and (1=1) and (1=1) and (1=1) and (1=1) and (1=1);", 1);
        good(x, 0, "bear 1 when " + repeat("not 1=1 or ", 10) + "1=1;", 1);
    }

    private static void firstByPlace() {
        SixCarry x = new SixCarry();
        fails(x, 0, "bear 1 / 0 foo", 2, 9);
        fails(x, 0, "bear foo / 0;", 1, 5);
        fails(x, 2, "change 9 foo", 2, 7);
        fails(x, 2, "change 9", 2, 7);
        fails(x, 2, "change 99999", 1, 7);
    }

    private static void staysAsItWas() {
        SixCarry x = new SixCarry();
        good(x, 0, "bear 1; bear 2;", 2);
        fails(x, 0, "bear 1; foo", 1, 8);
        Check.same("8: the law stays", x.look(8), 2);
        good(x, 2, "rest 1; walk 2; walk 1;", 3);
        x.paces(2);
        Check.same("8: one is left", x.look(10), 1);
        fails(x, 2, "walk 1; walk 1; foo", 1, 16);
        Check.same("8: the way stays where it is", x.look(10), 1);
        Check.same("8: what can be undone stays", x.look(11), 2);
        good(x, 2, "walk 1; walk 1;", 2);
        Check.same("8: it begins with its first line", x.look(10), 2);
        Check.same("8: nothing can be undone", x.look(11), 0);
        Check.same("9: no FAULT", x.fault(0), 0);
        Check.same("9: no place", x.fault(1), NONE);
    }

    private static void values() {
        SixCarry x = new SixCarry();
        x.set(0, 0, 999);
        x.bearer(60, 300, 0, 0);
        x.bearer(50, 300, 1, 1);
        x.bearer(50, 300, 1, 1);
        x.bearer(50, 300, 1, 1);
        x.set(10, 0, 7);
        x.place(2, 0);
        x.set(6, 2, 5);
        share(x, "9 - 2 - 3", 4);
        share(x, "2 + 3 * 4", 14);
        share(x, "20 / 3 * 2", 12);
        share(x, "7 - 20 / 6 * 2 + 1", 2);
        share(x, "100 - tall", 40);
        share(x, "strength - 290", 10);
        share(x, "tired + cloth + pair", 13);
        share(x, "over", 15);
        share(x, "1 - 4 / 3 + 1", 1);
        // 9999 * 9999 * 22 wraps to -2095407274, a thousandth of which is -2095407 towards 0.
        share(x, "9999 * 9999 * 22 / 1000 + 2095 * 1000 + 410", 3);
    }

    private static void share(SixCarry x, String e, int want) {
        // With three others of the SHARE that is due each bears a quarter, but only then.
        String law = "bear " + e + " when tall = 60; bear " + want + ";";
        x.place(3, 1);
        x.place(4, 2);
        x.place(5, 3);
        good(x, 0, law, 2);
        Check.same("2: " + e, x.loads(2, 0), 250);
        Check.same("2: " + e, x.loads(5, 0), 249);
    }

    private static void conditions() {
        SixCarry x = new SixCarry();
        x.bearer(60, 300, 0, 0);
        x.bearer(60, 300, 0, 0);
        x.set(0, 0, 100);
        x.place(0, 0);
        x.place(1, 1);
        String[] so = {"1 < 2", "not 2 < 1", "2 > 1", "2 = 2", "1 = 1 or 1 = 1 and 1 = 2", "not (1 = 2 or 2 = 1)",
            "not 1 = 2 and 1 = 1", "not not 1 = 1", "1 = 2 and 1 = 2 or 1 = 1", "(1 = 2 or 1 = 1) and 2 = 2"};
        String[] not = {"1 < 1", "1 > 1", "1 = 2", "not 1 = 1", "(1 = 1 or 1 = 1) and 1 = 2", "not 1 = 1 or 1 = 2",
            "1 = 1 and 1 = 2", "not (1 = 1)", "1 = 2 or 1 = 2 or 1 = 2", "not not not 1 = 1"};
        for (String b : so) {
            good(x, 0, "bear 3 when right = 1 and (" + b + "); bear 1;", 2);
            Check.same("2: so is " + b, x.loads(1, 0), 75);
        }
        for (String b : not) {
            good(x, 0, "bear 3 when right = 1 and (" + b + "); bear 1;", 2);
            Check.same("2: not so is " + b, x.loads(1, 0), 50);
        }
    }

    /** As many TOKENS as a TAPE can have, and as long as it can be. */
    private static void longest() {
        SixCarry x = new SixCarry();
        fails(x, 0, repeat(";", 400), 1, 0);
        fails(x, 2, repeat(";", 400), 1, 0);
        fails(x, 0, "bear 1" + repeat("+1", 197), 1, 400);
        good(x, 0, "bear 1" + repeat("+1", 196) + ";\n", 1);
        good(x, 1, "tire 1 when 1<2" + repeat("or 1=1 ", 54) + "      ;", 1);
        good(x, 1, "tire 1 when 1<2" + repeat("and 1=1 ", 48) + ";", 1);
        x.bearer(60, 300, 0, 0);
        x.bearer(60, 300, 0, 0);
        x.place(0, 0);
        x.place(1, 1);
        x.set(0, 0, 100);
        good(x, 0, "bear 1" + repeat("+1", 98) + " when right=1;bear 297;", 2);
        Check.same("2: 99 of 396", x.loads(1, 0), 25);
        deepest(x);
    }

    /** The most that waits at once: at each of nine levels an 'or' and an 'and', within a comparison a sum and a product. */
    private static void deepest(SixCarry x) {
        String inner = "1+1*1>1+1*1";
        StringBuilder b = new StringBuilder();
        for (int i = 0; i < 8; i++) {
            b.append("1>1or 1=1and(");
        }
        b.append("1>1or 1=1and ").append(inner).append("or 2+2*1=2+1*2and right=1").append(")".repeat(8));
        good(x, 0, "bear 3 when " + b + ";bear 1;", 2);
        Check.same("2: so is the deepest", x.loads(1, 0), 75);
        good(x, 0, "bear 3 when " + b.toString().replace("or 2+2*1=2+1*2and right=1", "") + ";bear 1;", 2);
        Check.same("2: not so is the deepest", x.loads(1, 0), 50);
    }

    private static void good(SixCarry x, int k, String text, int lines) {
        Check.same("8: lines of " + text, Tape.text(x, k, text), lines);
        Check.same("9: no FAULT in " + text, x.fault(0), 0);
        Check.same("9: no place in " + text, x.fault(1), NONE);
    }

    private static void fails(SixCarry x, int k, String text, int fault, int place) {
        Check.same("8: a FAULT in " + text, Tape.text(x, k, text), NONE);
        Check.same("9: the FAULT of " + text, x.fault(0), fault);
        Check.same("9: its place in " + text, x.fault(1), place);
    }

    private static String repeat(String text, int times) {
        return text.repeat(times);
    }
}
