/** Counts the answers that are not as due; a test ends with it. */
final class Due {
    interface Call {
        long answer();
    }

    private static int wrong = 0;
    private static int looked = 0;

    private Due() {
    }

    static void is(String what, long want, long got) {
        looked++;
        if (got != want) {
            tell(what + " answered " + got + ", due is " + want);
        }
    }

    static void isRefused(String what, Call call) {
        looked++;
        try {
            tell(what + " answered " + call.answer() + ", due is an IllegalArgumentException");
        } catch (RuntimeException e) {
            if (e.getClass() != IllegalArgumentException.class) {
                tell(what + " threw " + e + ", due is an IllegalArgumentException");
            }
        }
    }

    private static void tell(String text) {
        wrong++;
        if (wrong <= 40) {
            System.out.println(text);
        }
    }

    static void end() {
        System.out.println(wrong == 0 ? looked + " answers are as due" : wrong + " of " + looked + " answers are not as due");
        if (wrong != 0) {
            System.exit(1);
        }
    }
}
