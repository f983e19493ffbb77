import java.util.NoSuchElementException;
import java.util.function.Consumer;
import java.util.function.ObjIntConsumer;
import java.util.function.Supplier;

/** Compares answers with those that are due, and ends a test's main with exit code 1 if one is not. */
final class Expect {
    interface Call {
        void run();
    }

    private static int asked = 0;
    private static int wrong = 0;
    private static int sentences = 0;
    private static String inTest = "";

    private Expect() {
    }

    /** The test of its own that words of the document have. */
    static void sentence(String part, String words, Call test) {
        sentences++;
        inTest = part + ", \"" + words + "\": ";
        if (!Document.quote(part, words)) {
            complain("the document does not say so");
        }
        int before = asked;
        try {
            test.run();
        } catch (RuntimeException thrown) {
            complain("the test ended with " + thrown);
        }
        if (asked == before) {
            complain("the test asked nothing");
        }
        inTest = "";
    }

    static void same(String call, long got, long due) {
        same(call, String.valueOf(got), String.valueOf(due));
    }

    static void same(String call, boolean got, boolean due) {
        same(call, String.valueOf(got), String.valueOf(due));
    }

    static void same(String call, String got, String due) {
        asked++;
        if (!got.equals(due)) {
            complain(call + " answered " + got + ", due is " + due);
        }
    }

    /** The class must be the very one: a subclass would be an exception of the machine's. */
    static void refuses(String call, Class<? extends RuntimeException> due, Call body) {
        same(call, thrownBy(body), due.getSimpleName());
    }

    static void accepts(String call, Call body) {
        same(call, thrownBy(body), "nothing");
    }

    /** The simple name of what the body throws, "nothing" if it returns. */
    static String thrownBy(Call body) {
        try {
            body.run();
            return "nothing";
        } catch (Throwable thrown) {
            return thrown.getClass().getSimpleName();
        }
    }

    /** Refused on a new object of the maker's, which is then as one that was never asked. */
    static void refused(String call, Class<? extends RuntimeException> due, Supplier<ReturnRows> maker,
            Consumer<ReturnRows> body) {
        ReturnRows x = maker.get();
        refuses(call, due, () -> body.accept(x));
        unchanged(call, x, maker);
    }

    static void unchanged(String call, ReturnRows x, Supplier<ReturnRows> maker) {
        same("all behind the refused " + call, Scene.everythingAndLater(x), Scene.everythingAndLater(maker.get()));
    }

    static void taken(String call, Supplier<ReturnRows> maker, Consumer<ReturnRows> body) {
        ReturnRows x = maker.get();
        accepts(call, () -> body.accept(x));
    }

    /** A range's first and last number with their neighbours, and the ends of int. */
    static void range(String call, int first, int last, Supplier<ReturnRows> maker, ObjIntConsumer<ReturnRows> body) {
        for (int value : new int[] {first, first + 1, last - 1, last}) {
            taken(call + " with " + value, maker, x -> body.accept(x, value));
        }
        outside(call, first, last, maker, body);
    }

    static void outside(String call, int first, int last, Supplier<ReturnRows> maker, ObjIntConsumer<ReturnRows> body) {
        for (int value : new int[] {first - 1, last + 1, Integer.MIN_VALUE, Integer.MAX_VALUE}) {
            refused(call + " with " + value, IllegalArgumentException.class, maker, x -> body.accept(x, value));
        }
    }

    /** Outside the range in every state, so that the number is refused before the state. */
    static void outsideInEachState(String call, int first, int last, ObjIntConsumer<ReturnRows> body) {
        for (int state : Scene.STATES) {
            outside(call + " in state " + state, first, last, () -> Scene.inState(state), body);
        }
    }

    /** Taken in the states that fit, refused in each other one. */
    static void states(String call, Consumer<ReturnRows> body, int... fitting) {
        for (int state : Scene.STATES) {
            if (contains(fitting, state)) {
                taken(call + " in state " + state, () -> Scene.inState(state), body);
            } else {
                refused(call + " in state " + state, IllegalStateException.class, () -> Scene.inState(state), body);
            }
        }
    }

    /** The numbers around those of the things there, 1 to so many or 0 to one less, and the ends of int. */
    static void absent(String call, int first, int last, Supplier<ReturnRows> maker, ObjIntConsumer<ReturnRows> body) {
        for (int number : new int[] {first - 1, last + 1, 19, 20, 21, Integer.MIN_VALUE, Integer.MAX_VALUE}) {
            if (number < first || number > last) {
                refused(call + " with " + number, NoSuchElementException.class, maker, x -> body.accept(x, number));
            }
        }
    }

    private static boolean contains(int[] values, int wanted) {
        for (int value : values) {
            if (value == wanted) {
                return true;
            }
        }
        return false;
    }

    /** Ends the test; of the parts of the document that it stands for no word may be left without a test. */
    static void finish(String... parts) {
        for (String part : parts) {
            same("what no test quotes of " + part, Document.unquoted(part), "");
        }
        System.out.println(sentences + " sentences, " + asked + " answers asked, " + wrong + " not as due");
        if (wrong != 0 || asked == 0) {
            System.exit(1);
        }
    }

    private static void complain(String text) {
        wrong++;
        System.out.println(inTest + text);
    }
}
