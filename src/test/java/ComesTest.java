/** Promise 4: comes. */
public final class ComesTest {
    private static final String PART = "Promise 4";

    public static void main(String[] args) {
        Expect.sentence(PART, "A return of a sale is announced (ANNOUNCED)", ComesTest::isAnnounced);
        Expect.sentence(PART, "or came by itself (WAITING)", ComesTest::cameByItself);
        Expect.sentence(PART, "its number.", ComesTest::numbersGoUp);
        Expect.sentence(PART, "its number.", ComesTest::aRefusedOneTakesNone);
        Expect.sentence(PART, "IllegalStateException: there is one of this sale.", ComesTest::thereIsOne);
        Expect.finish(PART);
    }

    private static void isAnnounced() {
        ReturnRows x = Scene.withSales(2, 3);
        x.comes(2, 6, true);
        Expect.same("its all", Scene.everythingOf(x, 1), "0 2 6 -1 -1 -1 0 0 0 0 0 -1 0");
        Expect.same("returns", x.count(1), 1);
        Expect.same("returns of the customer", x.customer(2, 1), 1);
    }

    private static void cameByItself() {
        ReturnRows x = Scene.withSales(2, 3);
        x.comes(0, 7, false);
        Expect.same("its all", Scene.everythingOf(x, 1), "1 0 7 -1 -1 -1 0 0 0 0 0 -1 0");
        Expect.same("returns", x.count(1), 1);
        Expect.same("returns of the customer", x.customer(2, 1), 1);
    }

    private static void numbersGoUp() {
        ReturnRows x = Scene.full(0);
        for (int number = 1; number <= 20; number++) {
            Expect.same("return " + number, x.comes(20 - number, 0, number % 2 == 0), number);
            Expect.same("its sale", x.told(number, 1), 20 - number);
            Expect.same("its state", x.told(number, 0), number % 2 == 0 ? Scene.ANNOUNCED : Scene.WAITING);
        }
        Expect.same("returns", x.count(1), 20);
    }

    private static void aRefusedOneTakesNone() {
        ReturnRows x = Scene.inState(Scene.HERE);
        Expect.refuses("reason 8", IllegalArgumentException.class, () -> x.comes(1, 8, true));
        Expect.refuses("of a sale that has one", IllegalStateException.class, () -> x.comes(0, 0, true));
        Expect.same("the next return", x.comes(1, 0, true), 2);
    }

    private static void thereIsOne() {
        for (int state : Scene.STATES) {
            Expect.refused("another, announced, in state " + state, IllegalStateException.class,
                    () -> Scene.inState(state), x -> x.comes(0, 0, true));
            Expect.refused("another, by itself, in state " + state, IllegalStateException.class,
                    () -> Scene.inState(state), x -> x.comes(0, 7, false));
            Expect.taken("one of the other sale, in state " + state, () -> Scene.inState(state),
                    x -> x.comes(1, 0, true));
        }
        for (int sale : new int[] {0, 1, 18, 19}) {
            Expect.refused("another of sale " + sale, IllegalStateException.class, () -> Scene.full(20),
                    x -> x.comes(sale, 0, true));
        }
    }
}
