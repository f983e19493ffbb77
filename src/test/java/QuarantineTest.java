/** Promise 7: quarantine. */
public final class QuarantineTest {
    private static final String PART = "Promise 7";

    public static void main(String[] args) {
        Expect.sentence(PART, "A return is quarantined", QuarantineTest::isQuarantined);
        Expect.sentence(PART, "or not any more.", QuarantineTest::notAnyMore);
        Expect.sentence(PART, "or not any more.", QuarantineTest::notAnyMoreInALaterState);
        Expect.sentence(PART, "IllegalStateException: it is so", QuarantineTest::itIsSo);
        Expect.sentence(PART, "or (on) it is not HERE or GRADED.", QuarantineTest::neitherHereNorGraded);
        Expect.finish(PART);
    }

    private static void isQuarantined() {
        for (int state : new int[] {Scene.HERE, Scene.GRADED}) {
            ReturnRows x = Scene.inState(state);
            x.quarantine(1, true);
            Expect.same("whether it is", x.told(1, 7), 1);
            Expect.same("quarantined ones", x.count(3), 1);
            Expect.same("its state stays", x.told(1, 0), state);
        }
    }

    private static void notAnyMore() {
        for (int state : new int[] {Scene.HERE, Scene.GRADED}) {
            ReturnRows x = Scene.quarantined(state, 3);
            x.quarantine(1, false);
            Expect.same("whether it is", x.told(1, 7), 0);
            Expect.same("quarantined ones", x.count(3), 0);
            Expect.same("its state stays", x.told(1, 0), state);
            x.quarantine(1, true);
            Expect.same("once more", x.told(1, 7), 1);
        }
    }

    // Only the beginning asks for a state, and scrap does not ask for the quarantine.
    private static void notAnyMoreInALaterState() {
        ReturnRows x = Scene.quarantined(Scene.GRADED, 3);
        x.scrap(1, 1);
        Expect.same("whether the scrapped one is", x.told(1, 7), 1);
        Expect.accepts("off", () -> x.quarantine(1, false));
        Expect.same("whether it is", x.told(1, 7), 0);
        Expect.refuses("on", IllegalStateException.class, () -> x.quarantine(1, true));
    }

    private static void itIsSo() {
        for (int state : new int[] {Scene.HERE, Scene.GRADED}) {
            Expect.refused("on when it is on in state " + state, IllegalStateException.class,
                    () -> Scene.quarantined(state, 3), x -> x.quarantine(1, true));
        }
        for (int state : Scene.STATES) {
            Expect.refused("off when it is off in state " + state, IllegalStateException.class,
                    () -> Scene.inState(state), x -> x.quarantine(1, false));
        }
    }

    private static void neitherHereNorGraded() {
        Expect.states("on", x -> x.quarantine(1, true), Scene.HERE, Scene.GRADED);
    }
}
