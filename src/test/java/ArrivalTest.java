import java.util.NoSuchElementException;

/** Promises 5 to 8: arrival, serials, quarantine and checks. */
public final class ArrivalTest {
    public static void main(String[] args) {
        announcedOnesArrive();
        waitingOnesAreLetIn();
        personRange();
        serialsAreRead();
        serialRefusals();
        quarantineOnAndOff();
        quarantineByStates();
        checksCount();
        checkRange();
        Expect.finish();
    }

    private static void announcedOnesArrive() {
        ReturnRows x = Scene.inState(Scene.ANNOUNCED);
        Expect.refuses("person 0 for an announced one", IllegalStateException.class, () -> x.arrive(1, 0));
        Expect.refuses("person 9 for an announced one", IllegalStateException.class, () -> x.arrive(1, 9));
        Expect.same("still announced", x.told(1, 0), Scene.ANNOUNCED);
        x.arrive(1, -1);
        Expect.same("here", x.told(1, 0), Scene.HERE);
        Expect.same("let in by none", x.told(1, 11), -1);
        Expect.refuses("twice", IllegalStateException.class, () -> x.arrive(1, -1));
        Expect.refuses("twice, by a person", IllegalStateException.class, () -> x.arrive(1, 3));
    }

    private static void waitingOnesAreLetIn() {
        for (int person : new int[] {0, 1, 8, 9}) {
            ReturnRows x = Scene.inState(Scene.WAITING);
            Expect.refuses("none for a waiting one", IllegalStateException.class, () -> x.arrive(1, -1));
            Expect.same("nobody yet", x.told(1, 11), -1);
            x.arrive(1, person);
            Expect.same("here", x.told(1, 0), Scene.HERE);
            Expect.same("let in by", x.told(1, 11), person);
        }
    }

    private static void personRange() {
        for (int state : Scene.STATES) {
            ReturnRows x = Scene.inState(state);
            for (int person : new int[] {-2, 10, Integer.MIN_VALUE, Integer.MAX_VALUE}) {
                Expect.refuses("person " + person + " in state " + state, IllegalArgumentException.class,
                        () -> x.arrive(1, person));
                Expect.refuses("person " + person + ", no return", NoSuchElementException.class,
                        () -> x.arrive(2, person));
            }
        }
    }

    private static void serialsAreRead() {
        ReturnRows x = Scene.inState(Scene.HERE);
        x.sale(1, 1, 1);
        Expect.same("not wrong at first", x.told(1, 8), 0);
        Expect.same("its own", x.serial(1, 0), 1);
        Expect.same("sale 1's", x.serial(1, 1), -2);
        Expect.same("wrong", x.told(1, 8), 1);
        Expect.same("sale 2's", x.serial(1, 2), -3);
        Expect.same("still wrong", x.told(1, 8), 1);
        Expect.same("its own again", x.serial(1, 0), 1);
        Expect.same("not wrong any more", x.told(1, 8), 0);
        x.comes(2, 0, true);
        x.arrive(2, -1);
        Expect.same("sale 0's", x.serial(2, 0), -1);
        Expect.same("wrong", x.told(2, 8), 1);
        Expect.same("the other is not", x.told(1, 8), 0);
    }

    private static void serialRefusals() {
        for (int state : Scene.STATES) {
            ReturnRows x = Scene.inState(state);
            if (state != Scene.HERE) {
                Expect.refuses("own serial in state " + state, IllegalStateException.class, () -> x.serial(1, 0));
                Expect.refuses("other serial in state " + state, IllegalStateException.class, () -> x.serial(1, 1));
                Expect.same("not wrong by it", x.told(1, 8), 0);
            }
            for (int sale : new int[] {-1, 2, 20, Integer.MIN_VALUE, Integer.MAX_VALUE}) {
                Expect.refuses("sale " + sale + " in state " + state, NoSuchElementException.class,
                        () -> x.serial(1, sale));
            }
            Expect.refuses("no return", NoSuchElementException.class, () -> x.serial(2, 0));
        }
    }

    private static void quarantineOnAndOff() {
        ReturnRows x = Scene.inState(Scene.HERE);
        Expect.refuses("off when it is off", IllegalStateException.class, () -> x.quarantine(1, false));
        x.quarantine(1, true);
        Expect.same("quarantined", x.told(1, 7), 1);
        Expect.same("quarantined ones", x.count(3), 1);
        Expect.same("its state stays", x.told(1, 0), Scene.HERE);
        Expect.refuses("on when it is on", IllegalStateException.class, () -> x.quarantine(1, true));
        x.quarantine(1, false);
        Expect.same("not any more", x.told(1, 7), 0);
        Expect.same("quarantined ones", x.count(3), 0);
        for (int number : new int[] {-1, 0, 2, 20, 21}) {
            Expect.refuses("no return " + number, NoSuchElementException.class, () -> x.quarantine(number, true));
            Expect.refuses("no return " + number, NoSuchElementException.class, () -> x.quarantine(number, false));
        }
    }

    private static void quarantineByStates() {
        for (int state : Scene.STATES) {
            ReturnRows x = Scene.inState(state);
            boolean fits = state == Scene.HERE || state == Scene.GRADED;
            Expect.refuses("off in state " + state, IllegalStateException.class, () -> x.quarantine(1, false));
            if (fits) {
                Expect.accepts("on in state " + state, () -> x.quarantine(1, true));
            } else {
                Expect.refuses("on in state " + state, IllegalStateException.class, () -> x.quarantine(1, true));
            }
            Expect.same("quarantined in state " + state, x.told(1, 7), fits ? 1 : 0);
        }
        // Only the quarantine's beginning asks for a state: one that was scrapped meanwhile can end it.
        ReturnRows x = Scene.inState(Scene.GRADED);
        x.quarantine(1, true);
        Expect.same("scrapped in quarantine", x.scrap(1, 1) ? 1 : 0, 1);
        Expect.same("still quarantined", x.count(3), 1);
        Expect.accepts("off when scrapped", () -> x.quarantine(1, false));
        Expect.refuses("on when scrapped", IllegalStateException.class, () -> x.quarantine(1, true));
        Expect.same("none is quarantined", x.count(3), 0);
    }

    private static void checksCount() {
        ReturnRows x = Scene.inState(Scene.HERE);
        Expect.same("good", x.check(1, 4, true), 0);
        Expect.same("bad", x.check(1, 0, false), 1);
        Expect.same("bad again", x.check(1, 0, false), 1);
        Expect.same("another bad", x.check(1, 4, false), 2);
        Expect.same("bits", x.told(1, 6), 0b10001);
        Expect.same("good now", x.check(1, 0, true), 1);
        Expect.same("bits", x.told(1, 6), 0b10000);
        Expect.same("third", x.check(1, 2, false), 2);
        Expect.same("fourth", x.check(1, 1, false), 3);
        Expect.same("fifth", x.check(1, 3, false), 4);
        Expect.same("all", x.check(1, 0, false), 5);
        Expect.same("bits", x.told(1, 6), 0b11111);
        Expect.same("its state stays", x.told(1, 0), Scene.HERE);
    }

    private static void checkRange() {
        for (int state : Scene.STATES) {
            ReturnRows x = Scene.inState(state);
            for (int what : new int[] {-1, 5, 31, 32, Integer.MIN_VALUE, Integer.MAX_VALUE}) {
                Expect.refuses("check " + what + " in state " + state, IllegalArgumentException.class,
                        () -> x.check(1, what, false));
                Expect.refuses("check " + what + ", no return", NoSuchElementException.class,
                        () -> x.check(0, what, false));
            }
            if (state != Scene.HERE) {
                Expect.refuses("check in state " + state, IllegalStateException.class, () -> x.check(1, 0, false));
            }
            Expect.same("no bad check by it", x.told(1, 6), 0);
        }
    }
}
