/** Promise 5: arrive. */
public final class ArriveTest {
    private static final String PART = "Promise 5";

    public static void main(String[] args) {
        Expect.sentence(PART, "An announced return arrives", ArriveTest::announcedOnesArrive);
        Expect.sentence(PART, "a waiting one is let in by a person (0 .. 9", ArriveTest::waitingOnesAreLetIn);
        Expect.sentence(PART, "an announced one by none: -1)", ArriveTest::announcedOnesByNone);
        Expect.sentence(PART, "HERE.", ArriveTest::theyAreHere);
        Expect.sentence(PART, "IllegalArgumentException", ArriveTest::personsThatThereAreNot);
        Expect.sentence(PART, "IllegalStateException: it is neither", ArriveTest::itIsNeither);
        Expect.sentence(PART, "or a person is told for an announced one", ArriveTest::aPersonForAnAnnouncedOne);
        Expect.sentence(PART, "or none for a waiting one.", ArriveTest::noneForAWaitingOne);
        Expect.finish(PART);
    }

    private static void announcedOnesArrive() {
        ReturnRows x = Scene.withSales(0, 2);
        x.comes(0, 0, true);
        x.comes(1, 0, true);
        x.arrive(2, -1);
        Expect.same("the one that arrived", x.told(2, 0), Scene.HERE);
        Expect.same("the one that did not", x.told(1, 0), Scene.ANNOUNCED);
    }

    private static void waitingOnesAreLetIn() {
        for (int person : new int[] {0, 1, 8, 9}) {
            ReturnRows x = Scene.inState(Scene.WAITING);
            Expect.same("nobody yet", x.told(1, 11), -1);
            x.arrive(1, person);
            Expect.same("let in by", x.told(1, 11), person);
        }
    }

    private static void announcedOnesByNone() {
        ReturnRows x = Scene.inState(Scene.ANNOUNCED);
        x.arrive(1, -1);
        Expect.same("let in by none", x.told(1, 11), -1);
    }

    private static void theyAreHere() {
        ReturnRows announced = Scene.inState(Scene.ANNOUNCED);
        announced.arrive(1, -1);
        Expect.same("its all", Scene.everythingOf(announced, 1), "2 0 0 -1 -1 -1 0 0 0 0 0 -1 0");
        ReturnRows waiting = Scene.inState(Scene.WAITING);
        waiting.arrive(1, 4);
        Expect.same("its all", Scene.everythingOf(waiting, 1), "2 0 0 -1 -1 -1 0 0 0 0 0 4 0");
    }

    private static void personsThatThereAreNot() {
        Expect.outsideInEachState("arrive", -1, 9, (x, person) -> x.arrive(1, person));
    }

    private static void itIsNeither() {
        for (int person : new int[] {-1, 0, 9}) {
            for (int state = Scene.HERE; state <= Scene.BACK; state++) {
                int before = state;
                Expect.refused("arrive by " + person + " in state " + state, IllegalStateException.class,
                        () -> Scene.inState(before), x -> x.arrive(1, person));
            }
        }
    }

    private static void aPersonForAnAnnouncedOne() {
        for (int person : new int[] {0, 1, 8, 9}) {
            Expect.refused("arrive by " + person, IllegalStateException.class,
                    () -> Scene.inState(Scene.ANNOUNCED), x -> x.arrive(1, person));
        }
    }

    private static void noneForAWaitingOne() {
        Expect.refused("arrive by none", IllegalStateException.class, () -> Scene.inState(Scene.WAITING),
                x -> x.arrive(1, -1));
    }
}
