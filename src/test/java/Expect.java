/** Compares answers with those that are due, and ends a test's main with exit code 1 if one is not. */
final class Expect {
    interface Call {
        void run();
    }

    private static int asked = 0;
    private static int wrong = 0;

    private Expect() {
    }

    static void same(String call, long got, long due) {
        asked++;
        if (got != due) {
            complain(call + " answered " + got + ", due is " + due);
        }
    }

    static void same(String call, String got, String due) {
        asked++;
        if (!got.equals(due)) {
            complain(call + " answered " + got + ", due is " + due);
        }
    }

    /** The class must be the very one: a subclass would be an exception of the machine's. */
    static void refuses(String call, Class<? extends RuntimeException> due, Call body) {
        same(call, thrownBy(body), due.getSimpleName());
    }

    static void accepts(String call, Call body) {
        same(call, thrownBy(body), "nothing");
    }

    /** The simple name of what the body throws, "nothing" if it returns. */
    static String thrownBy(Call body) {
        try {
            body.run();
            return "nothing";
        } catch (Throwable thrown) {
            return thrown.getClass().getSimpleName();
        }
    }

    static void finish() {
        System.out.println(asked + " answers asked, " + wrong + " not as due");
        if (wrong != 0 || asked == 0) {
            System.exit(1);
        }
    }

    private static void complain(String text) {
        wrong++;
        System.out.println(text);
    }
}
