import java.util.NoSuchElementException;

/** Promise 1: a new object. */
public final class NewObjectTest {
    private static final String PART = "Promise 1";

    public static void main(String[] args) {
        Expect.sentence(PART, "Nothing there", NewObjectTest::nothingIsThere);
        Expect.sentence(PART, "Nothing there", NewObjectTest::nothingOfAnotherObjectIsThere);
        Expect.sentence(PART, "day 0.", NewObjectTest::itIsDay0);
        Expect.sentence("What it is", "An object is used for at most 512 calls after it has been made",
                NewObjectTest::the512thCallAnswers);
        Expect.finish(PART);
    }

    private static void nothingIsThere() {
        isEmpty(new ReturnRows());
        ReturnRows x = new ReturnRows();
        for (int number : new int[] {-1, 0, 1, 19, 20, 21}) {
            Expect.refuses("return of sale " + number, NoSuchElementException.class, () -> x.comes(number, 0, true));
            Expect.refuses("due(" + number + ")", NoSuchElementException.class, () -> x.due(number));
            Expect.refuses("told(" + number + ", 0)", NoSuchElementException.class, () -> x.told(number, 0));
        }
        Expect.same("the first sale", x.sale(0, 1, 0), 0);
        Expect.same("the first return", x.comes(0, 0, true), 1);
    }

    private static void nothingOfAnotherObjectIsThere() {
        ReturnRows busy = Scene.inState(Scene.SCRAPPED);
        busy.day(7);
        busy.refund(1, 1);
        isEmpty(new ReturnRows());
        Expect.same("today beside a busy object", new ReturnRows().count(2), 0);
        Expect.same("a certificate used there", Scene.graded(1000, 4).scrap(1, Scene.USED_CERTIFICATE), true);
        Expect.same("the busy object's day", busy.count(2), 7);
        Expect.same("the busy object's sales", busy.count(0), 2);
    }

    private static void isEmpty(ReturnRows x) {
        for (int what : new int[] {0, 1, 3, 4, 5, 6, 7}) {
            Expect.same("count(" + what + ")", x.count(what), 0);
        }
        for (int reason = 0; reason <= 7; reason++) {
            for (int what = 0; what <= 2; what++) {
                Expect.same("reason(" + reason + ", " + what + ")", x.reason(reason, what), 0);
            }
        }
        for (int customer = 0; customer <= 5; customer++) {
            for (int what = 0; what <= 3; what++) {
                Expect.same("customer(" + customer + ", " + what + ")", x.customer(customer, what), 0);
            }
        }
    }

    private static void itIsDay0() {
        Expect.same("today", new ReturnRows().count(2), 0);
        ReturnRows x = new ReturnRows();
        x.sale(0, 1000, 500);
        x.day(30);
        Scene.addGraded(x, 0, 0, 0);
        Expect.same("due 30 days behind a sale of the first day", x.due(1), 1000);
    }

    private static void the512thCallAnswers() {
        ReturnRows x = Scene.full(20);
        int calls = 40;
        while (calls < 510) {
            Expect.same("call " + (calls + 1), x.told(20, 1), 19);
            calls++;
        }
        Expect.accepts("the 511th call", () -> x.arrive(20, -1));
        Expect.same("the 512th call", x.told(20, 0), Scene.HERE);
    }
}
