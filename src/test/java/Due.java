/** What the tests share: answers that are due, exceptions that are due, and the exit code. */
final class Due {
    interface Call {
        double answer();
    }

    interface Act {
        void run();
    }

    static final Class<? extends RuntimeException> INDEX = IndexOutOfBoundsException.class;
    static final Class<? extends RuntimeException> ARGUMENT = IllegalArgumentException.class;
    static final Class<? extends RuntimeException> STATE = IllegalStateException.class;

    private static int asked = 0;
    private static int wrong = 0;

    private Due() {
    }

    static void is(String call, double got, double want) {
        asked++;
        if (got != want) {
            tell(call + " answered " + got + ", due is " + want);
        }
    }

    static void isLong(String call, long got, long want) {
        asked++;
        if (got != want) {
            tell(call + " answered " + got + ", due is " + want);
        }
    }

    static void isTrue(String what, boolean holds) {
        asked++;
        if (!holds) {
            tell(what + " does not hold");
        }
    }

    /** The very class is due: the machine's own exceptions stand below the document's ones. */
    static void fails(String call, Class<? extends RuntimeException> want, Act act) {
        asked++;
        try {
            act.run();
        } catch (RuntimeException e) {
            if (e.getClass() != want) {
                tell(call + " threw " + e.getClass().getName() + ", due is " + want.getName());
            }
            return;
        }
        tell(call + " threw nothing, due is " + want.getName());
    }

    static void passes(String call, Act act) {
        asked++;
        try {
            act.run();
        } catch (RuntimeException e) {
            tell(call + " threw " + e.getClass().getName() + ", due is an answer");
        }
    }

    /** The answer of a call, or the exception that it throws; adding 0.0 makes one 0 of the two. */
    static String told(Call call) {
        try {
            return Double.toString(call.answer() + 0.0);
        } catch (RuntimeException e) {
            return e.getClass().getName();
        }
    }

    static void end() {
        System.out.println(asked + " answers asked, " + wrong + " not as due");
        if (wrong != 0 || asked == 0) {
            System.exit(1);
        }
    }

    private static void tell(String text) {
        wrong++;
        if (wrong <= 50) {
            System.out.println(text);
        }
    }
}
