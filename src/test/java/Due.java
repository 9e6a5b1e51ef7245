/** Compares answers with those that are due, tells the others, and counts them. */
final class Due {
    private static String heading = "";
    private static int wrong = 0;

    private Due() {
    }

    static void under(String newHeading) {
        heading = newHeading;
    }

    static void is(String what, int got, int want) {
        if (got != want) {
            fail(what + " is " + got + ", due is " + want);
        }
    }

    static void is(String what, String got, String want) {
        if (!got.equals(want)) {
            fail(what + " is " + got + ", due is " + want);
        }
    }

    static void passes(String what, Runnable call) {
        is(what + " throws", thrownBy(call), "nothing");
    }

    static void throwsIndex(String what, Runnable call) {
        is(what + " throws", thrownBy(call), "java.lang.IndexOutOfBoundsException");
    }

    static void throwsArgument(String what, Runnable call) {
        is(what + " throws", thrownBy(call), "java.lang.IllegalArgumentException");
    }

    static void fail(String text) {
        wrong++;
        System.out.println(heading + ": " + text);
    }

    static void end() {
        System.out.println(wrong == 0 ? "all answers are as due" : wrong + " answers are not as due");
        if (wrong != 0) {
            System.exit(1);
        }
    }

    private static String thrownBy(Runnable call) {
        try {
            call.run();
            return "nothing";
        } catch (RuntimeException e) {
            return e.getClass().getName();
        }
    }
}
