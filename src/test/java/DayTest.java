/** Promises 1 and 2: a new object, and the day. */
public final class DayTest {
    public static void main(String[] args) {
        aNewObjectIsEmpty();
        daysGoOn();
        daysOutsideTheRange();
        objectsAreApart();
        Expect.finish();
    }

    private static void aNewObjectIsEmpty() {
        ReturnRows x = new ReturnRows();
        for (int what = 0; what <= 7; what++) {
            Expect.same("count(" + what + ") of a new object", x.count(what), 0);
        }
        for (int reason = 0; reason <= 7; reason++) {
            for (int what = 0; what <= 2; what++) {
                Expect.same("reason(" + reason + ", " + what + ") of a new object", x.reason(reason, what), 0);
            }
        }
        for (int customer = 0; customer <= 5; customer++) {
            for (int what = 0; what <= 3; what++) {
                Expect.same("customer(" + customer + ", " + what + ") of a new object",
                        x.customer(customer, what), 0);
            }
        }
        Expect.refuses("due(1) of a new object", java.util.NoSuchElementException.class, () -> x.due(1));
        Expect.refuses("comes(0, 0, true) of a new object", java.util.NoSuchElementException.class,
                () -> x.comes(0, 0, true));
    }

    private static void daysGoOn() {
        ReturnRows x = new ReturnRows();
        x.day(0);
        Expect.same("day 0 is still 0", x.count(2), 0);
        x.day(1);
        Expect.same("day 1", x.count(2), 1);
        x.day(1);
        Expect.same("the same day again", x.count(2), 1);
        Expect.refuses("the day before", IllegalArgumentException.class, () -> x.day(0));
        Expect.same("it stays day 1", x.count(2), 1);
        x.day(999);
        x.day(1000);
        Expect.same("the last day", x.count(2), 1000);
        x.day(1000);
        Expect.refuses("behind the last day", IllegalArgumentException.class, () -> x.day(1001));
        Expect.refuses("before the last day", IllegalArgumentException.class, () -> x.day(999));
        Expect.same("it stays the last day", x.count(2), 1000);
    }

    private static void daysOutsideTheRange() {
        ReturnRows x = new ReturnRows();
        for (int day : new int[] {-1, 1001, Integer.MIN_VALUE, Integer.MAX_VALUE}) {
            Expect.refuses("day(" + day + ")", IllegalArgumentException.class, () -> x.day(day));
            Expect.same("today after it", x.count(2), 0);
        }
    }

    private static void objectsAreApart() {
        ReturnRows busy = Scene.inState(Scene.SCRAPPED);
        busy.day(7);
        Expect.same("another object's sales", new ReturnRows().count(0), 0);
        Expect.same("another object's day", new ReturnRows().count(2), 0);
        Expect.same("another object's certificate", Scene.graded(100, 4).scrap(1, 1) ? 1 : 0, 1);
    }
}
