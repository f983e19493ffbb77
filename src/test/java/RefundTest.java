/** Promise 15: refund. */
public final class RefundTest {
    private static final String PART = "Promise 15";

    public static void main(String[] args) {
        Expect.sentence(PART, "So much (1 .. 100000)", RefundTest::soMuch);
        Expect.sentence(PART, "is paid back", RefundTest::isPaidBack);
        Expect.sentence(PART, "what is left of what is due.", RefundTest::whatIsLeft);
        Expect.sentence(PART, "IllegalStateException: it is more than is left.", RefundTest::moreThanIsLeft);
        Expect.sentence(PART, "IllegalStateException: it is more than is left.", RefundTest::nothingIsDue);
        Expect.sentence(PART, "IllegalStateException: it is more than is left.", RefundTest::lessIsDueThanWasPaid);
        Expect.finish(PART);
    }

    private static void soMuch() {
        Expect.range("refund", 1, 100000, () -> Scene.graded(100000, 0), (x, cents) -> x.refund(1, cents));
        Expect.outsideInEachState("refund", 1, 100000, (x, cents) -> x.refund(1, cents));
    }

    private static void isPaidBack() {
        ReturnRows x = Scene.withSales(0, 2);
        Scene.addGraded(x, 0, 0, 0);
        Scene.addGraded(x, 1, 0, 0);
        x.refund(2, 1);
        x.refund(2, 299);
        Expect.same("paid for it", x.told(2, 10), 300);
        Expect.same("paid for the other", x.told(1, 10), 0);
        Expect.same("paid in all", x.count(7), 300);
        Expect.same("its state stays", x.told(2, 0), Scene.GRADED);
    }

    private static void whatIsLeft() {
        ReturnRows x = Scene.graded(1000, 1);
        Expect.same("the first cent", x.refund(1, 1), 899);
        Expect.same("some", x.refund(1, 500), 399);
        Expect.same("all but a cent", x.refund(1, 398), 1);
        Expect.same("the last cent", x.refund(1, 1), 0);
        Expect.same("all at once", Scene.graded(1000, 1).refund(1, 900), 0);
        Expect.same("the most", Scene.graded(100000, 0).refund(1, 100000), 0);
        Expect.same("the least", Scene.graded(1, 0).refund(1, 1), 0);
        int[] due = {0, 0, 0, 400, 400, 400, 900};
        for (int state = Scene.GRADED; state <= Scene.BACK; state++) {
            Expect.same("in state " + state, Scene.inState(state).refund(1, 1), due[state] - 1);
        }
        Expect.same("in quarantine", Scene.quarantined(Scene.GRADED, 3).refund(1, 400), 0);
    }

    private static ReturnRows paid(int cents) {
        ReturnRows x = Scene.graded(1000, 1);
        x.refund(1, cents);
        return x;
    }

    private static void moreThanIsLeft() {
        Expect.refused("a cent more than is due", IllegalStateException.class, () -> Scene.graded(1000, 1),
                x -> x.refund(1, 901));
        Expect.refused("the most", IllegalStateException.class, () -> Scene.graded(1000, 1),
                x -> x.refund(1, 100000));
        Expect.taken("all that is due", () -> Scene.graded(1000, 1), x -> x.refund(1, 900));
        Expect.refused("a cent more than is left", IllegalStateException.class, () -> paid(500),
                x -> x.refund(1, 401));
        Expect.taken("all that is left", () -> paid(500), x -> x.refund(1, 400));
        Expect.refused("a cent when all is paid", IllegalStateException.class, () -> paid(900),
                x -> x.refund(1, 1));
    }

    private static void nothingIsDue() {
        for (int state = Scene.ANNOUNCED; state <= Scene.HERE; state++) {
            int without = state;
            Expect.refused("a cent in state " + state, IllegalStateException.class, () -> Scene.inState(without),
                    x -> x.refund(1, 1));
        }
        Expect.refused("a cent with grade 4", IllegalStateException.class, () -> Scene.graded(1000, 4),
                x -> x.refund(1, 1));
        Expect.refused("a cent of a WRONG one", IllegalStateException.class, () -> Scene.wrong(0),
                x -> x.refund(1, 1));
    }

    private static void lessIsDueThanWasPaid() {
        ReturnRows x = Scene.graded(1000, 0);
        x.refund(1, 600);
        x.grade(1, 3);
        Expect.refuses("a cent", IllegalStateException.class, () -> x.refund(1, 1));
        Expect.same("paid", x.told(1, 10), 600);
        x.grade(1, 2);
        Expect.refuses("too much when more is due again", IllegalStateException.class, () -> x.refund(1, 101));
        Expect.same("when more is due again", x.refund(1, 40), 60);
        x.missing(1, 1);
        Expect.refuses("a cent when a piece is missing", IllegalStateException.class, () -> x.refund(1, 1));
        x.missing(1, 0);
        Expect.same("when it was found", x.refund(1, 60), 0);
    }
}
