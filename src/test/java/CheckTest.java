/** Promise 8: check. */
public final class CheckTest {
    private static final String PART = "Promise 8";

    public static void main(String[] args) {
        Expect.sentence(PART, "A check of a return", CheckTest::ofThisReturn);
        Expect.sentence(PART, "how many checks are bad then.", CheckTest::howManyAreBad);
        Expect.sentence(PART, "IllegalStateException: it is not HERE.", CheckTest::notHere);
        Expect.finish(PART);
    }

    private static void ofThisReturn() {
        ReturnRows x = Scene.withSales(0, 2);
        Scene.addHere(x, 0, 0);
        Scene.addHere(x, 1, 0);
        Expect.same("bad for the first", x.check(1, 0, false), 1);
        Expect.same("bad for the second", x.check(2, 4, false), 1);
        Expect.same("bits of the first", x.told(1, 6), 1);
        Expect.same("bits of the second", x.told(2, 6), 16);
        Expect.same("its state stays", x.told(1, 0), Scene.HERE);
    }

    private static void howManyAreBad() {
        ReturnRows x = Scene.inState(Scene.HERE);
        Expect.same("a good one", x.check(1, 4, true), 0);
        for (int what = 0; what <= 4; what++) {
            Expect.same("check " + what + " bad", x.check(1, what, false), what + 1);
        }
        Expect.same("the last bad again", x.check(1, 4, false), 5);
        for (int what = 0; what <= 4; what++) {
            Expect.same("check " + what + " good", x.check(1, what, true), 4 - what);
        }
        Expect.same("the last good again", x.check(1, 4, true), 0);
    }

    private static void notHere() {
        Expect.states("bad", x -> x.check(1, 0, false), Scene.HERE);
        Expect.states("good", x -> x.check(1, 4, true), Scene.HERE);
        Expect.taken("check in quarantine", () -> Scene.quarantined(Scene.HERE, 0), x -> x.check(1, 0, false));
    }
}
