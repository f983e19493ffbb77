/** Promise 18: customer. */
public final class CustomerTest {
    private static final String PART = "Promise 18";

    public static void main(String[] args) {
        Expect.sentence(PART, "Of a customer 0 sales", CustomerTest::sales);
        Expect.sentence(PART, "1 returns", CustomerTest::returns);
        Expect.sentence(PART, "2 WRONG ones", CustomerTest::wrongOnes);
        Expect.sentence(PART, "3 whether MARKED: two WRONG ones or more", CustomerTest::markedByWrongOnes);
        Expect.sentence(PART, "3 whether MARKED: two WRONG ones or more", CustomerTest::wrongOnesOfAnyDay);
        Expect.sentence(PART, "or more than three returns that came", CustomerTest::markedByReturns);
        Expect.sentence(PART, "today", CustomerTest::today);
        Expect.sentence(PART, "or in the 30 days before.", CustomerTest::the30DaysBefore);
        Expect.sentence(PART, "or in the 30 days before.", CustomerTest::notTheDayOfTheArrival);
        Expect.sentence(PART, "IllegalArgumentException.", CustomerTest::noSuchCustomer);
        Expect.sentence(PART, "IllegalArgumentException.", CustomerTest::noSuchNumberOfIt);
        Expect.finish(PART);
    }

    private static void told(ReturnRows x, int what, int... due) {
        for (int customer = 0; customer <= 5; customer++) {
            Expect.same("customer(" + customer + ", " + what + ")", x.customer(customer, what), due[customer]);
        }
    }

    private static void sales() {
        ReturnRows x = new ReturnRows();
        told(x, 0, 0, 0, 0, 0, 0, 0);
        x.sale(0, 1, 0);
        x.sale(5, 1, 0);
        x.sale(5, 1, 0);
        told(x, 0, 1, 0, 0, 0, 0, 2);
        x.comes(1, 0, true);
        told(x, 0, 1, 0, 0, 0, 0, 2);
        told(Scene.withSales(3, 20), 0, 0, 0, 0, 20, 0, 0);
    }

    private static void returns() {
        ReturnRows x = new ReturnRows();
        for (int sale = 0; sale < 6; sale++) {
            x.sale(sale % 2 == 0 ? 0 : 5, 1000, 500);
        }
        told(x, 1, 0, 0, 0, 0, 0, 0);
        x.comes(0, 0, true);
        x.comes(1, 0, false);
        x.comes(3, 0, true);
        told(x, 1, 1, 0, 0, 0, 0, 2);
        x.day(1000);
        told(x, 1, 1, 0, 0, 0, 0, 2);
        told(Scene.full(20), 1, 20, 0, 0, 0, 0, 0);
    }

    /** Sales 0 to 4 to customer 2 and sale 5 to customer 4, the returns 1 to 4 of the first four HERE. */
    private static ReturnRows fourHere() {
        ReturnRows x = Scene.withSales(2, 5);
        x.sale(4, 1, 1);
        for (int sale = 0; sale < 4; sale++) {
            Scene.addHere(x, sale, 0);
        }
        return x;
    }

    private static void wrongOnes() {
        ReturnRows x = fourHere();
        told(x, 2, 0, 0, 0, 0, 0, 0);
        x.serial(1, 5);
        told(x, 2, 0, 0, 1, 0, 0, 0);
        x.serial(1, 1);
        told(x, 2, 0, 0, 1, 0, 0, 0);
        x.serial(2, 5);
        x.serial(4, 0);
        told(x, 2, 0, 0, 3, 0, 0, 0);
        x.serial(1, 0);
        told(x, 2, 0, 0, 2, 0, 0, 0);
        x.grade(2, 4);
        x.scrap(2, 1);
        told(x, 2, 0, 0, 2, 0, 0, 0);
    }

    /** Three returns of customer 2 that are HERE: too few for a mark by themselves. */
    private static ReturnRows threeHere() {
        ReturnRows x = Scene.withSales(2, 4);
        for (int sale = 0; sale < 3; sale++) {
            Scene.addHere(x, sale, 0);
        }
        return x;
    }

    private static void markedByWrongOnes() {
        ReturnRows x = threeHere();
        told(x, 3, 0, 0, 0, 0, 0, 0);
        x.serial(1, 3);
        told(x, 3, 0, 0, 0, 0, 0, 0);
        x.serial(1, 2);
        told(x, 3, 0, 0, 0, 0, 0, 0);
        x.serial(2, 3);
        told(x, 3, 0, 0, 1, 0, 0, 0);
        x.serial(3, 0);
        told(x, 3, 0, 0, 1, 0, 0, 0);
        x.serial(3, 2);
        told(x, 3, 0, 0, 1, 0, 0, 0);
        x.serial(2, 1);
        told(x, 3, 0, 0, 0, 0, 0, 0);
    }

    private static void wrongOnesOfAnyDay() {
        ReturnRows x = threeHere();
        x.serial(1, 3);
        x.serial(2, 3);
        x.grade(2, 4);
        x.scrap(2, 1);
        x.day(1000);
        told(x, 3, 0, 0, 1, 0, 0, 0);
    }

    private static void markedByReturns() {
        ReturnRows x = Scene.withSales(1, 5);
        for (int sale = 0; sale < 5; sale++) {
            x.comes(sale, 0, sale % 2 == 0);
            told(x, 3, 0, sale >= 3 ? 1 : 0, 0, 0, 0, 0);
        }
        ReturnRows two = new ReturnRows();
        for (int sale = 0; sale < 6; sale++) {
            two.sale(sale % 2, 1, 0);
            two.comes(sale, 0, true);
        }
        told(two, 3, 0, 0, 0, 0, 0, 0);
        told(Scene.full(20), 3, 1, 0, 0, 0, 0, 0);
    }

    /** So many returns of customer 1 announced on one day, and one more on another. */
    private static ReturnRows came(int first, int many, int second) {
        ReturnRows x = Scene.withSales(1, many + 1);
        x.day(first);
        for (int sale = 0; sale < many; sale++) {
            x.comes(sale, 0, true);
        }
        x.day(second);
        x.comes(many, 0, false);
        return x;
    }

    private static void today() {
        for (int day : new int[] {0, 1, 999, 1000}) {
            Expect.same("four on day " + day, came(day, 3, day).customer(1, 3), 1);
            Expect.same("three on day " + day, came(day, 2, day).customer(1, 3), 0);
        }
    }

    private static void the30DaysBefore() {
        for (int before : new int[] {0, 1, 29, 30}) {
            Expect.same("three " + before + " days before", came(100, 3, 100 + before).customer(1, 3), 1);
            Expect.same("one " + before + " days behind three", came(100 - before, 3, 100).customer(1, 3), 1);
        }
        Expect.same("three 31 days before", came(100, 3, 131).customer(1, 3), 0);
        Expect.same("four 31 days before", came(100, 4, 131).customer(1, 3), 0);
        Expect.same("three 30 days before the last day", came(970, 3, 1000).customer(1, 3), 1);
        Expect.same("three 31 days before the last day", came(969, 3, 1000).customer(1, 3), 0);
        ReturnRows x = came(100, 3, 130);
        x.day(131);
        Expect.same("a day later", x.customer(1, 3), 0);
        ReturnRows few = came(100, 1, 130);
        few.day(160);
        Expect.same("one of two in the 30 days before", few.customer(1, 3), 0);
    }

    private static void notTheDayOfTheArrival() {
        ReturnRows x = came(100, 4, 131);
        for (int number = 1; number <= 4; number++) {
            x.arrive(number, -1);
        }
        Expect.same("four that came 31 days before and arrived today", x.customer(1, 3), 0);
    }

    private static void noSuchCustomer() {
        for (int what = 0; what <= 3; what++) {
            int asked = what;
            Expect.range("what " + what + " of customer", 0, 5, () -> Scene.inState(Scene.HERE),
                    (x, customer) -> x.customer(customer, asked));
            Expect.outside("what " + what + " of customer, nothing there", 0, 5, ReturnRows::new,
                    (x, customer) -> x.customer(customer, asked));
        }
    }

    private static void noSuchNumberOfIt() {
        for (int customer : new int[] {0, 5}) {
            Expect.range("customer " + customer + " what", 0, 3, () -> Scene.inState(Scene.HERE),
                    (x, what) -> x.customer(customer, what));
            Expect.outside("customer " + customer + " what, nothing there", 0, 3, ReturnRows::new,
                    (x, what) -> x.customer(customer, what));
        }
        Expect.outside("customer 6 what", 0, 3, ReturnRows::new, (x, what) -> x.customer(6, what));
    }
}
