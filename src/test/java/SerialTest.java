/** Promise 6: serial. */
public final class SerialTest {
    private static final String PART = "Promise 6";

    public static void main(String[] args) {
        Expect.sentence(PART, "The serial that is read is that of a sale", SerialTest::ofASaleThatThereIs);
        Expect.sentence(PART, "1 if it is its own", SerialTest::itsOwn);
        Expect.sentence(PART, "else -1 less that sale", SerialTest::anotherOne);
        Expect.sentence(PART, "and the return is WRONG", SerialTest::itIsWrong);
        Expect.sentence(PART, "(with its own read later it is not any more).", SerialTest::notAnyMore);
        Expect.sentence(PART, "IllegalStateException: it is not HERE.", SerialTest::notHere);
        Expect.finish(PART);
    }

    private static void ofASaleThatThereIs() {
        for (int state : Scene.STATES) {
            Expect.absent("serial in state " + state, 0, 1, () -> Scene.inState(state), (x, sale) -> x.serial(1, sale));
        }
        Expect.absent("serial with all sales", 0, 19, SerialTest::firstAndLastHere, (x, sale) -> x.serial(1, sale));
    }

    private static ReturnRows firstAndLastHere() {
        ReturnRows x = Scene.full(0);
        Scene.addHere(x, 0, 0);
        Scene.addHere(x, 19, 0);
        return x;
    }

    private static void itsOwn() {
        ReturnRows x = firstAndLastHere();
        Expect.same("the first sale's", x.serial(1, 0), 1);
        Expect.same("the last sale's", x.serial(2, 19), 1);
        Expect.same("whether the first is WRONG", x.told(1, 8), 0);
        Expect.same("whether the last is WRONG", x.told(2, 8), 0);
        Expect.same("again", x.serial(1, 0), 1);
    }

    private static void anotherOne() {
        ReturnRows x = firstAndLastHere();
        for (int sale = 1; sale <= 19; sale++) {
            Expect.same("serial(1, " + sale + ")", x.serial(1, sale), -1 - sale);
        }
        Expect.same("the first sale's for the last", x.serial(2, 0), -1);
        Expect.same("the last but one's for the last", x.serial(2, 18), -19);
    }

    private static void itIsWrong() {
        ReturnRows x = firstAndLastHere();
        Expect.same("without a serial read", x.told(1, 8), 0);
        x.serial(1, 19);
        Expect.same("with another read", x.told(1, 8), 1);
        x.serial(1, 18);
        Expect.same("with still another read", x.told(1, 8), 1);
        Expect.same("the other return", x.told(2, 8), 0);
        Expect.same("its sale stays", x.told(1, 1), 0);
        Expect.same("its state stays", x.told(1, 0), Scene.HERE);
        ReturnRows first = firstAndLastHere();
        first.serial(2, 0);
        Expect.same("with sale 0 read", first.told(2, 8), 1);
    }

    private static void notAnyMore() {
        ReturnRows x = Scene.wrong();
        x.serial(1, 0);
        Expect.same("with its own read later", x.told(1, 8), 0);
        Expect.same("WRONG ones of the customer", x.customer(0, 2), 0);
        x.serial(1, 1);
        Expect.same("with another read behind that", x.told(1, 8), 1);
    }

    private static void notHere() {
        Expect.states("own serial", x -> x.serial(1, 0), Scene.HERE);
        Expect.states("another serial", x -> x.serial(1, 1), Scene.HERE);
        Expect.refused("own serial of a graded WRONG one", IllegalStateException.class, () -> Scene.wrong(4),
                x -> x.serial(1, 0));
        Expect.taken("serial in quarantine", () -> Scene.quarantined(Scene.HERE, 0), x -> x.serial(1, 1));
    }
}
