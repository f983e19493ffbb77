import java.util.NoSuchElementException;

/** Promises 3 and 4: sales, and the returns that come of them. */
public final class SaleTest {
    public static void main(String[] args) {
        salesAreNumbered();
        saleRanges();
        twentySales();
        returnsAreNumbered();
        reasonRange();
        salesThatThereAreNot();
        oneReturnOfASale();
        twentyReturns();
        Expect.finish();
    }

    private static void salesAreNumbered() {
        ReturnRows x = new ReturnRows();
        Expect.same("first sale", x.sale(0, 1, 0), 0);
        Expect.same("second sale", x.sale(5, 100000, 1000), 1);
        Expect.same("third sale", x.sale(5, 50000, 500), 2);
        Expect.same("sales", x.count(0), 3);
        Expect.same("sales of customer 0", x.customer(0, 0), 1);
        Expect.same("sales of customer 5", x.customer(5, 0), 2);
        Scene.addGraded(x, 1, 0, 0);
        Expect.same("its price is kept", x.due(1), 100000);
    }

    private static void saleRanges() {
        ReturnRows x = new ReturnRows();
        refusedSale(x, -1, 1, 0);
        refusedSale(x, 6, 1, 0);
        refusedSale(x, 0, 0, 0);
        refusedSale(x, 0, -1, 0);
        refusedSale(x, 0, 100001, 0);
        refusedSale(x, 0, 1, -1);
        refusedSale(x, 0, 1, 1001);
        refusedSale(x, Integer.MIN_VALUE, 1, 0);
        refusedSale(x, Integer.MAX_VALUE, 1, 0);
        refusedSale(x, 0, Integer.MAX_VALUE, 0);
        refusedSale(x, 0, 1, Integer.MIN_VALUE);
        Expect.same("no sale came of it", x.count(0), 0);
        x.day(9);
        Expect.same("a lot whose last day is over", x.sale(0, 1, 8), 0);
    }

    private static void refusedSale(ReturnRows x, int customer, int price, int lastDay) {
        Expect.refuses("sale(" + customer + ", " + price + ", " + lastDay + ")",
                IllegalArgumentException.class, () -> x.sale(customer, price, lastDay));
    }

    private static void twentySales() {
        ReturnRows x = Scene.withSales(3, 19);
        Expect.same("the 20th sale", x.sale(3, 1, 1), 19);
        Expect.refuses("the 21st sale", UnsupportedOperationException.class, () -> x.sale(3, 1, 1));
        refusedSale(x, 6, 1, 1);
        refusedSale(x, 0, 0, 1);
        refusedSale(x, 0, 1, 1001);
        Expect.same("sales", x.count(0), 20);
        Expect.same("sales of the customer", x.customer(3, 0), 20);
    }

    private static void returnsAreNumbered() {
        ReturnRows x = Scene.withSales(2, 3);
        Expect.same("an announced return", x.comes(2, 0, true), 1);
        Expect.same("its state", x.told(1, 0), Scene.ANNOUNCED);
        Expect.same("its sale", x.told(1, 1), 2);
        Expect.same("its reason", x.told(1, 2), 0);
        Expect.same("one that came by itself", x.comes(0, 7, false), 2);
        Expect.same("its state", x.told(2, 0), Scene.WAITING);
        Expect.same("its sale", x.told(2, 1), 0);
        Expect.same("its reason", x.told(2, 2), 7);
        Expect.same("returns", x.count(1), 2);
    }

    private static void reasonRange() {
        ReturnRows x = Scene.withSales(0, 1);
        for (int reason : new int[] {-1, 8, Integer.MIN_VALUE, Integer.MAX_VALUE}) {
            Expect.refuses("reason " + reason, IllegalArgumentException.class, () -> x.comes(0, reason, true));
        }
        Expect.same("no return came of it", x.count(1), 0);
        Expect.same("the sale is still free", x.comes(0, 7, true), 1);
    }

    private static void salesThatThereAreNot() {
        ReturnRows x = Scene.withSales(0, 2);
        for (int sale : new int[] {-1, 2, 19, 20, 21, Integer.MIN_VALUE, Integer.MAX_VALUE}) {
            Expect.refuses("sale " + sale, NoSuchElementException.class, () -> x.comes(sale, 0, true));
            Expect.refuses("sale " + sale + ", no reason", NoSuchElementException.class,
                    () -> x.comes(sale, 8, true));
        }
    }

    private static void oneReturnOfASale() {
        ReturnRows x = Scene.withSales(0, 2);
        x.comes(0, 1, true);
        Expect.refuses("a second one", IllegalStateException.class, () -> x.comes(0, 1, true));
        Expect.refuses("a second one by itself", IllegalStateException.class, () -> x.comes(0, 1, false));
        Expect.refuses("a second one, no reason", IllegalArgumentException.class, () -> x.comes(0, 8, false));
        Expect.same("returns", x.count(1), 1);
        Expect.same("of another sale", x.comes(1, 1, true), 2);
    }

    private static void twentyReturns() {
        ReturnRows x = Scene.withSales(0, 20);
        for (int sale = 0; sale < 20; sale++) {
            Expect.same("return of sale " + sale, x.comes(sale, sale % 8, true), sale + 1);
        }
        // With one return of each of 20 sales there is always an earlier refusal for a 21st.
        Expect.refuses("a 21st of a sale that has one", IllegalStateException.class, () -> x.comes(19, 0, true));
        Expect.refuses("a 21st of no sale", NoSuchElementException.class, () -> x.comes(20, 0, true));
        Expect.same("returns", x.count(1), 20);
        Expect.same("the 20th's sale", x.told(20, 1), 19);
        Expect.refuses("the 21st", NoSuchElementException.class, () -> x.told(21, 0));
    }
}
