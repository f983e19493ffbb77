import java.util.NoSuchElementException;

/** Promises 17 to 20: what is told of reasons, customers, returns and the whole. */
public final class StatisticsTest {
    public static void main(String[] args) {
        ofReasons();
        reasonRanges();
        ofCustomers();
        customerRanges();
        markedByWrongOnes();
        markedByReturns();
        markedByDays();
        toldOfReturns();
        toldRanges();
        counts();
        Expect.finish();
    }

    private static ReturnRows mixed() {
        ReturnRows x = new ReturnRows();
        for (int sale = 0; sale < 6; sale++) {
            x.sale(sale % 2 == 0 ? 0 : 5, 1000, 500);
        }
        Scene.addGraded(x, 0, 0, 0);
        Scene.addGraded(x, 1, 7, 3);
        Scene.addGraded(x, 2, 7, 4);
        Scene.addGraded(x, 3, 7, 3);
        x.comes(4, 3, false);
        x.refund(1, 1000);
        x.refund(2, 30);
        x.refund(2, 4);
        x.refund(4, 100);
        x.scrap(2, 1);
        x.scrap(3, 2);
        return x;
    }

    private static void ofReasons() {
        ReturnRows x = mixed();
        reason(x, 0, 1, 1000, 0);
        reason(x, 3, 1, 0, 0);
        reason(x, 7, 3, 134, 2);
        for (int reason : new int[] {1, 2, 4, 5, 6}) {
            reason(x, reason, 0, 0, 0);
        }
        x.refund(2, 1);
        reason(x, 7, 3, 135, 2);
    }

    private static void reason(ReturnRows x, int reason, int returns, int paid, int scrapped) {
        Expect.same("returns for reason " + reason, x.reason(reason, 0), returns);
        Expect.same("paid for reason " + reason, x.reason(reason, 1), paid);
        Expect.same("scrapped for reason " + reason, x.reason(reason, 2), scrapped);
    }

    private static void reasonRanges() {
        ReturnRows x = mixed();
        for (int reason : new int[] {-1, 8, Integer.MIN_VALUE, Integer.MAX_VALUE}) {
            for (int what = 0; what <= 2; what++) {
                int asked = what;
                Expect.refuses("reason(" + reason + ", " + what + ")", IllegalArgumentException.class,
                        () -> x.reason(reason, asked));
            }
        }
        for (int what : new int[] {-1, 3, Integer.MIN_VALUE, Integer.MAX_VALUE}) {
            Expect.refuses("reason(0, " + what + ")", IllegalArgumentException.class, () -> x.reason(0, what));
        }
    }

    private static void ofCustomers() {
        ReturnRows x = mixed();
        customer(x, 0, 3, 3, 0, 0);
        customer(x, 5, 3, 2, 0, 0);
        customer(x, 1, 0, 0, 0, 0);
        x.arrive(5, 0);
        x.serial(5, 5);
        customer(x, 0, 3, 3, 1, 0);
        customer(x, 5, 3, 2, 0, 0);
        x.serial(5, 4);
        customer(x, 0, 3, 3, 0, 0);
    }

    private static void customer(ReturnRows x, int customer, int sales, int returns, int wrong, int marked) {
        Expect.same("sales of customer " + customer, x.customer(customer, 0), sales);
        Expect.same("returns of customer " + customer, x.customer(customer, 1), returns);
        Expect.same("wrong ones of customer " + customer, x.customer(customer, 2), wrong);
        Expect.same("whether marked, customer " + customer, x.customer(customer, 3), marked);
    }

    private static void customerRanges() {
        ReturnRows x = mixed();
        for (int customer : new int[] {-1, 6, Integer.MIN_VALUE, Integer.MAX_VALUE}) {
            for (int what = 0; what <= 3; what++) {
                int asked = what;
                Expect.refuses("customer(" + customer + ", " + what + ")", IllegalArgumentException.class,
                        () -> x.customer(customer, asked));
            }
        }
        for (int what : new int[] {-1, 4, Integer.MIN_VALUE, Integer.MAX_VALUE}) {
            Expect.refuses("customer(0, " + what + ")", IllegalArgumentException.class, () -> x.customer(0, what));
        }
    }

    private static void markedByWrongOnes() {
        ReturnRows x = Scene.withSales(2, 3);
        x.sale(4, 1, 1);
        for (int sale = 0; sale < 3; sale++) {
            x.comes(sale, 0, true);
            x.arrive(sale + 1, -1);
        }
        x.serial(1, 3);
        customer(x, 2, 3, 3, 1, 0);
        x.serial(2, 0);
        customer(x, 2, 3, 3, 2, 1);
        x.serial(3, 0);
        customer(x, 2, 3, 3, 3, 1);
        customer(x, 4, 1, 0, 0, 0);
        x.day(1000);
        customer(x, 2, 3, 3, 3, 1);
        x.serial(1, 0);
        x.serial(2, 1);
        customer(x, 2, 3, 3, 1, 0);
        x.serial(2, 3);
        x.grade(2, 4);
        x.scrap(2, 1);
        customer(x, 2, 3, 3, 2, 1);
    }

    private static void markedByReturns() {
        ReturnRows x = Scene.withSales(1, 5);
        for (int sale = 0; sale < 5; sale++) {
            x.comes(sale, 0, sale % 2 == 0);
            Expect.same("marked with " + (sale + 1), x.customer(1, 3), sale >= 3 ? 1 : 0);
        }
        Expect.same("another is not", x.customer(0, 3), 0);
    }

    private static void markedByDays() {
        ReturnRows x = Scene.withSales(1, 5);
        x.day(100);
        x.comes(0, 0, true);
        x.day(101);
        x.comes(1, 0, true);
        x.comes(2, 0, false);
        x.day(130);
        x.comes(3, 0, true);
        Expect.same("the first came 30 days ago", x.customer(1, 3), 1);
        x.day(131);
        Expect.same("the first came 31 days ago", x.customer(1, 3), 0);
        x.comes(4, 0, false);
        Expect.same("a new one, two of 30 days ago", x.customer(1, 3), 1);
        x.arrive(1, -1);
        Expect.same("returns in all", x.customer(1, 1), 5);
        x.day(132);
        // The day of the announcement counts, not that of the arrival.
        Expect.same("two of the last 30 days, one arrived", x.customer(1, 3), 0);
    }

    private static void toldOfReturns() {
        ReturnRows x = Scene.withSales(0, 3);
        x.comes(2, 6, false);
        Expect.same("waiting", Scene.everythingOf(x, 1), "1 2 6 -1 -1 -1 0 0 0 0 0 -1 0");
        x.arrive(1, 8);
        x.check(1, 3, false);
        x.check(1, 1, false);
        x.quarantine(1, true);
        Expect.same("here", Scene.everythingOf(x, 1), "2 2 6 -1 -1 -1 10 1 0 0 0 8 0");
        x.quarantine(1, false);
        x.grade(1, 3);
        x.refund(1, 250);
        x.repair(1, 4);
        Expect.same("in repair", Scene.everythingOf(x, 1), "4 2 6 3 -1 3 10 0 0 4 250 8 400");
        for (int i = 0; i < 4; i++) {
            x.step(1, true);
        }
        x.grade(1, 4);
        Expect.same("graded", Scene.everythingOf(x, 1), "3 2 6 4 2 2 10 0 0 0 250 8 0");
        x.scrap(1, 77);
        Expect.same("scrapped", Scene.everythingOf(x, 1), "5 2 6 4 2 2 10 0 0 0 250 8 0");
        x.comes(0, 1, true);
        x.arrive(2, -1);
        x.serial(2, 1);
        Expect.same("a wrong one", Scene.everythingOf(x, 2), "2 0 1 -1 -1 -1 0 0 1 0 0 -1 0");
        for (int state : Scene.STATES) {
            Expect.same("state " + state, Scene.inState(state).told(1, 0), state);
        }
    }

    private static void toldRanges() {
        ReturnRows x = mixed();
        for (int what : new int[] {-1, 12, Integer.MIN_VALUE, Integer.MAX_VALUE}) {
            Expect.refuses("told(1, " + what + ")", IllegalArgumentException.class, () -> x.told(1, what));
        }
        for (int number : new int[] {-1, 0, 6, 20, 21, Integer.MIN_VALUE, Integer.MAX_VALUE}) {
            Expect.refuses("told(" + number + ", 0)", NoSuchElementException.class, () -> x.told(number, 0));
            Expect.refuses("told(" + number + ", 12)", NoSuchElementException.class, () -> x.told(number, 12));
        }
        Expect.accepts("told(5, 11)", () -> x.told(5, 11));
    }

    private static void counts() {
        ReturnRows x = mixed();
        x.day(12);
        x.back(1);
        x.arrive(5, 0);
        x.quarantine(5, true);
        x.quarantine(4, true);
        int[] due = {6, 5, 12, 2, 1, 0, 0, 1134};
        for (int what = 0; what <= 7; what++) {
            Expect.same("count(" + what + ")", x.count(what), due[what]);
        }
        for (int what : new int[] {-1, 8, 9, Integer.MIN_VALUE, Integer.MAX_VALUE}) {
            Expect.same("count(" + what + ")", x.count(what), -1);
        }
    }
}
