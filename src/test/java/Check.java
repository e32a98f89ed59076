/** Counts the answers that are not as due, for all tests of the project. */
final class Check {
    private static int right = 0;
    private static int wrong = 0;

    private Check() { }

    static void same(String call, long got, long want) {
        if (got == want) {
            right++;
            return;
        }
        wrong++;
        if (wrong <= 40) {
            System.out.println(call + " answered " + got + ", due is " + want);
        }
    }

    static void yes(String call, boolean got) {
        same(call, got ? 1 : 0, 1);
    }

    static void no(String call, boolean got) {
        same(call, got ? 1 : 0, 0);
    }

    static int right() {
        return right;
    }

    static int wrong() {
        return wrong;
    }

    static boolean allRight() {
        return wrong == 0;
    }

    static void close() {
        System.out.println(right + " answers as due, " + wrong + " not");
        if (wrong != 0 || right == 0) {
            System.exit(1);
        }
    }
}
