import java.util.NoSuchElementException;

/** Promises 14 to 16: missing pieces, refunds and what is due. */
public final class MoneyTest {
    private static final int[] PERCENTS = {100, 90, 70, 40, 0};

    public static void main(String[] args) {
        dueByGrades();
        dueDropsRests();
        dueWithoutGrade();
        dueByDays();
        dueOfWrongOnes();
        dueInLaterStates();
        missingPieces();
        missingRefusals();
        refundsWithinDue();
        refundRange();
        refundsWhenDueChanges();
        refundsInEachState();
        noSuchReturn();
        Expect.finish();
    }

    private static void dueByGrades() {
        for (int grade = 0; grade <= 4; grade++) {
            Expect.same("due of 1000, grade " + grade, Scene.graded(1000, grade).due(1), 10L * PERCENTS[grade]);
            Expect.same("due of 100000, grade " + grade, Scene.graded(100000, grade).due(1), 1000L * PERCENTS[grade]);
        }
    }

    private static void dueDropsRests() {
        int[] of99999 = {99999, 89999, 69999, 39999, 0};
        int[] of1 = {1, 0, 0, 0, 0};
        for (int grade = 0; grade <= 4; grade++) {
            Expect.same("due of 99999, grade " + grade, Scene.graded(99999, grade).due(1), of99999[grade]);
            Expect.same("due of 1, grade " + grade, Scene.graded(1, grade).due(1), of1[grade]);
        }
        ReturnRows x = Scene.graded(999, 0);
        x.missing(1, 10);
        Expect.same("999 less ten times 99", x.due(1), 9);
        ReturnRows small = Scene.graded(9, 0);
        small.missing(1, 10);
        Expect.same("a tenth of 9 is nothing", small.due(1), 9);
        ReturnRows both = Scene.graded(119, 1);
        both.missing(1, 3);
        Expect.same("107 less three times 11", both.due(1), 74);
    }

    private static void dueWithoutGrade() {
        for (int state = Scene.ANNOUNCED; state <= Scene.HERE; state++) {
            Expect.same("due in state " + state, Scene.inState(state).due(1), 0);
        }
    }

    private static void dueByDays() {
        int[] came = {10, 39, 40, 41, 42};
        int[] due = {1000, 1000, 1000, 0, 0};
        for (int i = 0; i < came.length; i++) {
            for (int kind = 0; kind <= 1; kind++) {
                boolean announced = kind == 0;
                ReturnRows x = new ReturnRows();
                x.day(10);
                x.sale(0, 1000, 1000);
                x.day(came[i]);
                x.comes(0, 0, announced);
                x.day(200);
                x.arrive(1, announced ? -1 : 0);
                x.grade(1, 0);
                Expect.same("due when it came on day " + came[i], x.due(1), due[i]);
                Expect.same("days do not stop the resale", x.back(1), 1);
            }
        }
    }

    private static void dueOfWrongOnes() {
        ReturnRows x = Scene.inState(Scene.HERE);
        x.serial(1, 1);
        x.grade(1, 0);
        Expect.same("due of a wrong one", x.due(1), 0);
        Expect.refuses("refund of a wrong one", IllegalStateException.class, () -> x.refund(1, 1));
        ReturnRows own = Scene.inState(Scene.HERE);
        own.serial(1, 1);
        own.serial(1, 0);
        own.grade(1, 0);
        Expect.same("due with its own read later", own.due(1), 1000);
    }

    private static void dueInLaterStates() {
        Expect.same("due in repair", Scene.inState(Scene.IN_REPAIR).due(1), 400);
        Expect.same("due when scrapped", Scene.inState(Scene.SCRAPPED).due(1), 400);
        Expect.same("due when back", Scene.inState(Scene.BACK).due(1), 900);
        ReturnRows x = Scene.inState(Scene.GRADED);
        x.quarantine(1, true);
        Expect.same("due in quarantine", x.due(1), 400);
        x.quarantine(1, false);
        x.repair(1, 1);
        x.step(1, true);
        Expect.same("due behind the repair", x.due(1), 700);
    }

    private static void missingPieces() {
        ReturnRows x = Scene.graded(1000, 1);
        int[] due = {900, 800, 700, 600, 500, 400, 300, 200, 100, 0, 0};
        for (int n = 10; n >= 0; n--) {
            x.missing(1, n);
            Expect.same("due with " + n + " missing", x.due(1), due[n]);
        }
        ReturnRows early = Scene.inState(Scene.HERE);
        early.missing(1, 4);
        Expect.same("due before a grade", early.due(1), 0);
        early.grade(1, 0);
        Expect.same("due behind it", early.due(1), 600);
        Expect.same("its state stays", early.told(1, 0), Scene.GRADED);
        ReturnRows worst = Scene.graded(1000, 4);
        worst.missing(1, 3);
        Expect.same("never below 0", worst.due(1), 0);
    }

    private static void missingRefusals() {
        for (int state : Scene.STATES) {
            ReturnRows x = Scene.inState(state);
            for (int n : new int[] {-1, 11, Integer.MIN_VALUE, Integer.MAX_VALUE}) {
                Expect.refuses("missing " + n + " in state " + state, IllegalArgumentException.class,
                        () -> x.missing(1, n));
                Expect.refuses("missing " + n + ", no return", NoSuchElementException.class, () -> x.missing(2, n));
            }
            int before = x.due(1);
            if (state == Scene.HERE || state == Scene.GRADED) {
                Expect.accepts("missing in state " + state, () -> x.missing(1, 1));
            } else {
                Expect.refuses("missing in state " + state, IllegalStateException.class, () -> x.missing(1, 1));
                Expect.same("due stays", x.due(1), before);
            }
        }
        ReturnRows held = Scene.inState(Scene.HERE);
        held.quarantine(1, true);
        Expect.accepts("missing in quarantine", () -> held.missing(1, 1));
    }

    private static void refundsWithinDue() {
        ReturnRows x = Scene.graded(1000, 1);
        Expect.refuses("one more than is due", IllegalStateException.class, () -> x.refund(1, 901));
        Expect.same("nothing was paid", x.told(1, 10), 0);
        Expect.same("the first cent", x.refund(1, 1), 899);
        Expect.same("some", x.refund(1, 500), 399);
        Expect.same("paid", x.told(1, 10), 501);
        Expect.same("due, whatever was paid", x.due(1), 900);
        Expect.refuses("one more than is left", IllegalStateException.class, () -> x.refund(1, 400));
        Expect.same("the rest", x.refund(1, 399), 0);
        Expect.refuses("one more", IllegalStateException.class, () -> x.refund(1, 1));
        Expect.same("paid", x.told(1, 10), 900);
        Expect.same("paid in all", x.count(7), 900);
    }

    private static void refundRange() {
        for (int state : Scene.STATES) {
            ReturnRows x = Scene.inState(state);
            for (int cents : new int[] {0, -1, 100001, Integer.MIN_VALUE, Integer.MAX_VALUE}) {
                Expect.refuses("refund " + cents + " in state " + state, IllegalArgumentException.class,
                        () -> x.refund(1, cents));
                Expect.refuses("refund " + cents + ", no return", NoSuchElementException.class,
                        () -> x.refund(2, cents));
            }
        }
        Expect.same("the most", Scene.graded(100000, 0).refund(1, 100000), 0);
    }

    private static void refundsWhenDueChanges() {
        ReturnRows x = Scene.graded(1000, 0);
        x.refund(1, 600);
        x.grade(1, 3);
        Expect.same("less is due than was paid", x.due(1), 400);
        Expect.refuses("nothing is left", IllegalStateException.class, () -> x.refund(1, 1));
        x.grade(1, 2);
        Expect.same("more is due again", x.refund(1, 40), 60);
        x.missing(1, 1);
        Expect.refuses("a piece is missing", IllegalStateException.class, () -> x.refund(1, 1));
        x.missing(1, 0);
        Expect.same("it was found", x.refund(1, 60), 0);
    }

    private static void refundsInEachState() {
        int[] due = {0, 0, 0, 400, 400, 400, 900};
        for (int state : Scene.STATES) {
            ReturnRows x = Scene.inState(state);
            if (due[state] == 0) {
                Expect.refuses("refund in state " + state, IllegalStateException.class, () -> x.refund(1, 1));
            } else {
                Expect.same("refund in state " + state, x.refund(1, 1), due[state] - 1);
            }
        }
    }

    private static void noSuchReturn() {
        ReturnRows x = Scene.graded(1000, 0);
        for (int number : new int[] {-1, 0, 2, 20, 21, Integer.MIN_VALUE, Integer.MAX_VALUE}) {
            Expect.refuses("due of no return " + number, NoSuchElementException.class, () -> x.due(number));
            Expect.refuses("refund of no return " + number, NoSuchElementException.class, () -> x.refund(number, 1));
        }
    }
}
