import java.util.NoSuchElementException;

/** Promise 19: told. */
public final class ToldTest {
    private static final String PART = "Promise 19";

    public static void main(String[] args) {
        Expect.sentence(PART, "Of a return 0 its state", ToldTest::itsState);
        Expect.sentence(PART, "1 sale", ToldTest::sale);
        Expect.sentence(PART, "2 reason", ToldTest::reason);
        Expect.sentence(PART, "3 grade (-1 none)", ToldTest::grade);
        Expect.sentence(PART, "4 the grade before (-1 none)", ToldTest::gradeBefore);
        Expect.sentence(PART, "5 the best grade it ever had (-1 none)", ToldTest::bestGrade);
        Expect.sentence(PART, "6 bad checks as bits", ToldTest::badChecks);
        Expect.sentence(PART, "7 whether it is quarantined", ToldTest::quarantined);
        Expect.sentence(PART, "8 whether it is WRONG", ToldTest::wrong);
        Expect.sentence(PART, "9 steps of its repair that are left", ToldTest::stepsLeft);
        Expect.sentence(PART, "10 what was paid back", ToldTest::paid);
        Expect.sentence(PART, "11 the person that let it in (-1).", ToldTest::person);
        Expect.sentence(PART, "NoSuchElementException", ToldTest::noSuchReturn);
        Expect.sentence(PART, "IllegalArgumentException.", ToldTest::noSuchNumberOfIt);
        Expect.finish(PART);
    }

    private static void inEachState(int what, int... due) {
        for (int state : Scene.STATES) {
            Expect.same("told(1, " + what + ") in state " + state, Scene.inState(state).told(1, what), due[state]);
        }
    }

    private static void itsState() {
        inEachState(0, 0, 1, 2, 3, 4, 5, 6);
    }

    private static void sale() {
        inEachState(1, 0, 0, 0, 0, 0, 0, 0);
        ReturnRows x = Scene.full(0);
        x.comes(19, 0, true);
        x.comes(0, 0, true);
        x.comes(18, 0, false);
        Expect.same("of the first", x.told(1, 1), 19);
        Expect.same("of the second", x.told(2, 1), 0);
        Expect.same("of the third", x.told(3, 1), 18);
        x.arrive(1, -1);
        x.serial(1, 5);
        Expect.same("of the first with another serial", x.told(1, 1), 19);
    }

    private static void reason() {
        ReturnRows x = Scene.withSales(0, 8);
        for (int reason = 0; reason <= 7; reason++) {
            x.comes(reason, 7 - reason, true);
            Expect.same("of return " + (reason + 1), x.told(reason + 1, 2), 7 - reason);
        }
    }

    private static void grade() {
        inEachState(3, -1, -1, -1, 3, 3, 3, 1);
        for (int grade = 0; grade <= 4; grade++) {
            Expect.same("graded " + grade, Scene.inState(Scene.GRADED, grade).told(1, 3), grade);
        }
    }

    private static void gradeBefore() {
        inEachState(4, -1, -1, -1, -1, -1, -1, -1);
        ReturnRows x = Scene.inState(Scene.GRADED, 0);
        x.grade(1, 4);
        Expect.same("graded anew", x.told(1, 4), 0);
        x.grade(1, 4);
        Expect.same("graded the same", x.told(1, 4), 4);
        x.repair(1, 1);
        Expect.same("in repair", x.told(1, 4), 4);
        x.step(1, true);
        x.repair(1, 1);
        x.step(1, true);
        Expect.same("repaired twice", x.told(1, 4), 3);
    }

    private static void bestGrade() {
        inEachState(5, -1, -1, -1, 3, 3, 3, 1);
        ReturnRows x = Scene.inState(Scene.GRADED, 2);
        int[] grades = {4, 3, 1, 2, 0, 4};
        int[] best = {2, 2, 1, 1, 0, 0};
        for (int i = 0; i < grades.length; i++) {
            x.grade(1, grades[i]);
            Expect.same("graded " + grades[i], x.told(1, 5), best[i]);
        }
        ReturnRows mended = Scene.inState(Scene.GRADED, 4);
        mended.repair(1, 1);
        mended.step(1, true);
        Expect.same("by a repair", mended.told(1, 5), 3);
        mended.grade(1, 4);
        Expect.same("worse behind it", mended.told(1, 5), 3);
    }

    private static void badChecks() {
        inEachState(6, 0, 0, 0, 0, 0, 0, 0);
        for (int check = 0; check <= 4; check++) {
            Expect.same("check " + check + " bad", Scene.withBadCheck(check).told(1, 6), 1 << check);
        }
        ReturnRows x = Scene.inState(Scene.HERE);
        for (int check = 0; check <= 4; check++) {
            x.check(1, check, false);
        }
        Expect.same("all bad", x.told(1, 6), 31);
        x.check(1, 2, true);
        Expect.same("all but one bad", x.told(1, 6), 27);
        x.grade(1, 4);
        Expect.same("graded", x.told(1, 6), 27);
    }

    private static void quarantined() {
        inEachState(7, 0, 0, 0, 0, 0, 0, 0);
        ReturnRows x = Scene.quarantined(Scene.HERE, 0);
        Expect.same("quarantined", x.told(1, 7), 1);
        x.quarantine(1, false);
        Expect.same("not any more", x.told(1, 7), 0);
    }

    private static void wrong() {
        inEachState(8, 0, 0, 0, 0, 0, 0, 0);
        Expect.same("another serial", Scene.wrong().told(1, 8), 1);
        Expect.same("graded then", Scene.wrong(4).told(1, 8), 1);
    }

    private static void stepsLeft() {
        inEachState(9, 0, 0, 0, 0, 2, 0, 0);
        ReturnRows x = Scene.inState(Scene.GRADED);
        x.repair(1, 5);
        for (int left = 5; left >= 1; left--) {
            Expect.same("left", x.told(1, 9), left);
            x.step(1, true);
        }
        Expect.same("left behind the last", x.told(1, 9), 0);
        x.repair(1, 5);
        x.step(1, false);
        Expect.same("left behind one that failed", x.told(1, 9), 0);
    }

    private static void paid() {
        inEachState(10, 0, 0, 0, 0, 0, 0, 0);
        ReturnRows x = Scene.graded(100000, 0);
        x.refund(1, 1);
        Expect.same("a cent", x.told(1, 10), 1);
        x.refund(1, 99999);
        Expect.same("all", x.told(1, 10), 100000);
        x.grade(1, 4);
        Expect.same("more than is due", x.told(1, 10), 100000);
    }

    private static void person() {
        inEachState(11, -1, -1, -1, -1, -1, -1, -1);
        for (int person : new int[] {0, 1, 8, 9}) {
            ReturnRows x = Scene.inState(Scene.WAITING);
            x.arrive(1, person);
            Expect.same("let in", x.told(1, 11), person);
            x.grade(1, 4);
            x.scrap(1, 1);
            Expect.same("scrapped then", x.told(1, 11), person);
        }
    }

    private static void noSuchReturn() {
        for (int what = 0; what <= 11; what++) {
            int asked = what;
            Expect.absent("told " + what, 1, 1, () -> Scene.inState(Scene.HERE), (x, number) -> x.told(number, asked));
        }
        Expect.absent("told with nothing there", 1, 0, ReturnRows::new, (x, number) -> x.told(number, 0));
        Expect.taken("told of the 20th", () -> Scene.full(20), x -> x.told(20, 0));
        Expect.refused("told of a 21st", NoSuchElementException.class, () -> Scene.full(20), x -> x.told(21, 0));
    }

    private static void noSuchNumberOfIt() {
        Expect.range("told", 0, 11, () -> Scene.inState(Scene.HERE), (x, what) -> x.told(1, what));
        Expect.outsideInEachState("told", 0, 11, (x, what) -> x.told(1, what));
    }
}
