/** Feeds a text as a user has to: twenty bytes a call, then end(). */
final class Tape {
    private Tape() { }

    static void feed(SixCarry x, String text) {
        int from = 0;
        while (from < text.length()) {
            int has = x.feed(four(text, from), four(text, from + 4), four(text, from + 8), four(text, from + 12),
                four(text, from + 16));
            Check.yes("feed of " + text, has == SixCarry.NONE || has >= 20);
            from += 20;
        }
        Check.yes("end of " + text, x.end(text.length()));
    }

    static int text(SixCarry x, int k, String text) {
        feed(x, text);
        return x.text(k);
    }

    static int four(String text, int from) {
        int four = 0;
        for (int i = from; i < from + 4; i++) {
            four = four << 8 | (i < text.length() ? text.charAt(i) & 255 : 32);
        }
        return four;
    }
}
