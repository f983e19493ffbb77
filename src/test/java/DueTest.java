/** Promise 16: due, and what the document's Terms call DUE. */
public final class DueTest {
    private static final String PART = "Promise 16";
    private static final String TERM = "DUE";
    private static final int[] PERCENTS = {100, 90, 70, 40, 0};

    public static void main(String[] args) {
        Expect.sentence(PART, "What is due for a return", DueTest::forAReturn);
        Expect.sentence(PART, "whatever was paid.", DueTest::whateverWasPaid);
        Expect.sentence(TERM, "DUE of a graded return", DueTest::ofAReturnWithAGrade);
        Expect.sentence(TERM, "is its price times the PERCENTS of its grade (100, 90, 70, 40, 0), divided by 100",
                DueTest::percents);
        Expect.sentence(TERM, "(rests are dropped)", DueTest::restsAreDropped);
        Expect.sentence(TERM, "less a tenth of the price", DueTest::lessATenth);
        Expect.sentence(TERM, "(likewise) for each missing piece", DueTest::restsOfTenthsAreDropped);
        Expect.sentence(TERM, "but 0 at least", DueTest::zeroAtLeast);
        Expect.sentence(TERM, "0 if it is WRONG", DueTest::wrong);
        Expect.sentence(TERM, "or came (was announced", DueTest::wasAnnouncedLate);
        Expect.sentence(TERM, "or came by itself) more than 30 days behind its sale.", DueTest::cameByItselfLate);
        Expect.sentence(TERM, "Without a grade nothing is due.", DueTest::withoutAGrade);
        Expect.finish(PART, TERM);
    }

    private static void forAReturn() {
        ReturnRows x = new ReturnRows();
        x.sale(0, 100, 500);
        x.sale(0, 200, 500);
        Scene.addGraded(x, 1, 0, 1);
        Scene.addGraded(x, 0, 0, 2);
        Expect.same("due of the first return", x.due(1), 180);
        Expect.same("due of the second", x.due(2), 70);
        x.grade(2, 0);
        Expect.same("due graded anew", x.due(2), 100);
    }

    private static void whateverWasPaid() {
        ReturnRows x = Scene.graded(1000, 0);
        x.refund(1, 1);
        Expect.same("a cent paid", x.due(1), 1000);
        x.refund(1, 999);
        Expect.same("all paid", x.due(1), 1000);
        x.grade(1, 3);
        Expect.same("more paid than is due", x.due(1), 400);
    }

    private static void ofAReturnWithAGrade() {
        Expect.same("GRADED", Scene.inState(Scene.GRADED).due(1), 400);
        Expect.same("IN REPAIR", Scene.inState(Scene.IN_REPAIR).due(1), 400);
        Expect.same("SCRAPPED", Scene.inState(Scene.SCRAPPED).due(1), 400);
        Expect.same("BACK", Scene.inState(Scene.BACK).due(1), 900);
        Expect.same("in quarantine", Scene.quarantined(Scene.GRADED, 3).due(1), 400);
        ReturnRows mended = Scene.inState(Scene.IN_REPAIR);
        mended.step(1, true);
        Expect.same("before a repair's last step", mended.due(1), 400);
        mended.step(1, true);
        Expect.same("behind it", mended.due(1), 700);
    }

    private static void percents() {
        for (int grade = 0; grade <= 4; grade++) {
            Expect.same("of 1000, grade " + grade, Scene.graded(1000, grade).due(1), 10L * PERCENTS[grade]);
            Expect.same("of 100000, grade " + grade, Scene.graded(100000, grade).due(1), 1000L * PERCENTS[grade]);
        }
    }

    private static void restsAreDropped() {
        int[] of99999 = {99999, 89999, 69999, 39999, 0};
        int[] of1 = {1, 0, 0, 0, 0};
        int[] of2 = {2, 1, 1, 0, 0};
        int[] of3 = {3, 2, 2, 1, 0};
        for (int grade = 0; grade <= 4; grade++) {
            Expect.same("of 99999, grade " + grade, Scene.graded(99999, grade).due(1), of99999[grade]);
            Expect.same("of 1, grade " + grade, Scene.graded(1, grade).due(1), of1[grade]);
            Expect.same("of 2, grade " + grade, Scene.graded(2, grade).due(1), of2[grade]);
            Expect.same("of 3, grade " + grade, Scene.graded(3, grade).due(1), of3[grade]);
        }
    }

    private static ReturnRows gradedWithMissing(int price, int grade, int pieces) {
        ReturnRows x = Scene.graded(price, grade);
        x.missing(1, pieces);
        return x;
    }

    private static void lessATenth() {
        for (int pieces = 0; pieces <= 9; pieces++) {
            Expect.same(pieces + " of 1000, grade 1", gradedWithMissing(1000, 1, pieces).due(1), 900 - 100 * pieces);
            Expect.same(pieces + " of 100000, grade 0", gradedWithMissing(100000, 0, pieces).due(1),
                    100000 - 10000 * pieces);
        }
    }

    private static void restsOfTenthsAreDropped() {
        Expect.same("10 of 999", gradedWithMissing(999, 0, 10).due(1), 9);
        Expect.same("10 of 9", gradedWithMissing(9, 0, 10).due(1), 9);
        Expect.same("10 of 10", gradedWithMissing(10, 0, 10).due(1), 0);
        Expect.same("10 of 19", gradedWithMissing(19, 0, 10).due(1), 9);
        Expect.same("3 of 119, grade 1", gradedWithMissing(119, 1, 3).due(1), 74);
    }

    private static void zeroAtLeast() {
        Expect.same("9 of 1000, grade 1", gradedWithMissing(1000, 1, 9).due(1), 0);
        Expect.same("10 of 1000, grade 1", gradedWithMissing(1000, 1, 10).due(1), 0);
        Expect.same("10 of 1000, grade 0", gradedWithMissing(1000, 0, 10).due(1), 0);
        Expect.same("4 of 1000, grade 3", gradedWithMissing(1000, 3, 4).due(1), 0);
        Expect.same("5 of 1000, grade 3", gradedWithMissing(1000, 3, 5).due(1), 0);
        Expect.same("1 of 1000, grade 4", gradedWithMissing(1000, 4, 1).due(1), 0);
        Expect.same("10 of 100000, grade 4", gradedWithMissing(100000, 4, 10).due(1), 0);
    }

    private static void wrong() {
        for (int grade = 0; grade <= 4; grade++) {
            Expect.same("WRONG with grade " + grade, Scene.wrong(grade).due(1), 0);
        }
        ReturnRows own = Scene.wrong();
        own.serial(1, 0);
        own.grade(1, 0);
        Expect.same("with its own read later", own.due(1), 1000);
    }

    private static ReturnRows cameOn(int soldDay, int cameDay, boolean announced) {
        ReturnRows x = new ReturnRows();
        x.day(soldDay);
        x.sale(0, 1000, 1000);
        x.day(cameDay);
        x.comes(0, 0, announced);
        x.day(1000);
        x.arrive(1, announced ? -1 : 0);
        x.grade(1, 0);
        return x;
    }

    private static void comesLate(boolean announced) {
        for (int sold : new int[] {0, 1, 10, 969}) {
            for (int later : new int[] {0, 1, 29, 30, 31}) {
                Expect.same(later + " days behind day " + sold, cameOn(sold, sold + later, announced).due(1),
                        later > 30 ? 0 : 1000);
            }
        }
        Expect.same("1000 days behind", cameOn(0, 1000, announced).due(1), 0);
        Expect.same("all on the last day", cameOn(1000, 1000, announced).due(1), 1000);
    }

    private static void wasAnnouncedLate() {
        comesLate(true);
    }

    private static void cameByItselfLate() {
        comesLate(false);
    }

    private static void withoutAGrade() {
        for (int state = Scene.ANNOUNCED; state <= Scene.HERE; state++) {
            Expect.same("in state " + state, Scene.inState(state).due(1), 0);
        }
        ReturnRows missing = Scene.inState(Scene.HERE);
        missing.missing(1, 10);
        Expect.same("with all missing", missing.due(1), 0);
    }
}
