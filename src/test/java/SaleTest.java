/** Promise 3: sale. */
public final class SaleTest {
    private static final String PART = "Promise 3";

    public static void main(String[] args) {
        Expect.sentence(PART, "A sale", SaleTest::isKept);
        Expect.sentence(PART, "its number.", SaleTest::numbersGoUp);
        Expect.sentence(PART, "its number.", SaleTest::aRefusedOneTakesNone);
        Expect.finish(PART);
    }

    private static void isKept() {
        ReturnRows x = new ReturnRows();
        x.sale(0, 1, 0);
        x.sale(5, 100000, 1000);
        x.sale(5, 50000, 500);
        Expect.same("sales", x.count(0), 3);
        Expect.same("sales of customer 0", x.customer(0, 0), 1);
        Expect.same("sales of customer 5", x.customer(5, 0), 2);
        Expect.same("no return comes of it", x.count(1), 0);
        Scene.addGraded(x, 1, 0, 0);
        Expect.same("the price of sale 1", x.due(1), 100000);
        Scene.addGraded(x, 0, 0, 0);
        Expect.same("the price of sale 0", x.due(2), 1);
    }

    private static void numbersGoUp() {
        ReturnRows x = new ReturnRows();
        for (int number = 0; number < 20; number++) {
            Expect.same("sale " + number, x.sale(number % 6, 1 + number, number), number);
            Expect.same("sales behind it", x.count(0), number + 1);
        }
    }

    private static void aRefusedOneTakesNone() {
        ReturnRows x = Scene.withSales(0, 1);
        Expect.refuses("customer 6", IllegalArgumentException.class, () -> x.sale(6, 1, 0));
        Expect.refuses("price 0", IllegalArgumentException.class, () -> x.sale(0, 0, 0));
        Expect.refuses("last day 1001", IllegalArgumentException.class, () -> x.sale(0, 1, 1001));
        Expect.same("the next sale", x.sale(0, 1, 0), 1);
    }
}
