import java.util.NoSuchElementException;

/** Promises 9 to 11: grades, repairs and their steps. */
public final class GradeTest {
    public static void main(String[] args) {
        gradesAndThoseBefore();
        gradesByStates();
        gradeRange();
        gradesInQuarantine();
        gradesWithBadChecks();
        repairsWork();
        repairsFail();
        repairRefusals();
        stepRefusals();
        repairsAndBadChecks();
        Expect.finish();
    }

    private static void gradesAndThoseBefore() {
        ReturnRows x = Scene.inState(Scene.HERE);
        grades(x, -1, -1, -1);
        Expect.same("first", x.grade(1, 2), -1);
        Expect.same("graded", x.told(1, 0), Scene.GRADED);
        grades(x, 2, -1, 2);
        Expect.same("worse", x.grade(1, 4), 2);
        grades(x, 4, 2, 2);
        Expect.same("the same", x.grade(1, 4), 4);
        grades(x, 4, 4, 2);
        Expect.same("the best", x.grade(1, 0), 4);
        grades(x, 0, 4, 0);
        Expect.same("worse again", x.grade(1, 1), 0);
        grades(x, 1, 0, 0);
    }

    private static void grades(ReturnRows x, int grade, int before, int best) {
        Expect.same("grade", x.told(1, 3), grade);
        Expect.same("grade before", x.told(1, 4), before);
        Expect.same("best grade", x.told(1, 5), best);
    }

    private static void gradesByStates() {
        for (int state : Scene.STATES) {
            ReturnRows x = Scene.inState(state);
            if (state == Scene.HERE || state == Scene.GRADED) {
                Expect.accepts("grade in state " + state, () -> x.grade(1, 0));
            } else {
                Expect.refuses("grade in state " + state, IllegalStateException.class, () -> x.grade(1, 0));
                Expect.refuses("grade 4 in state " + state, IllegalStateException.class, () -> x.grade(1, 4));
            }
        }
    }

    private static void gradeRange() {
        for (int state : Scene.STATES) {
            ReturnRows x = Scene.inState(state);
            for (int grade : new int[] {-1, 5, Integer.MIN_VALUE, Integer.MAX_VALUE}) {
                Expect.refuses("grade " + grade + " in state " + state, IllegalArgumentException.class,
                        () -> x.grade(1, grade));
                Expect.refuses("grade " + grade + ", no return", NoSuchElementException.class,
                        () -> x.grade(2, grade));
            }
        }
    }

    private static void gradesInQuarantine() {
        for (int state : new int[] {Scene.HERE, Scene.GRADED}) {
            ReturnRows x = Scene.inState(state);
            x.quarantine(1, true);
            Expect.refuses("grade in quarantine", IllegalStateException.class, () -> x.grade(1, 4));
            x.quarantine(1, false);
            Expect.accepts("grade behind it", () -> x.grade(1, 4));
        }
    }

    private static void gradesWithBadChecks() {
        ReturnRows x = Scene.inState(Scene.HERE);
        x.check(1, 4, false);
        for (int grade = 0; grade <= 2; grade++) {
            int tooGood = grade;
            Expect.refuses("grade " + grade, IllegalStateException.class, () -> x.grade(1, tooGood));
        }
        Expect.same("nothing graded", x.told(1, 0), Scene.HERE);
        Expect.same("grade 3", x.grade(1, 3), -1);
        Expect.same("grade 4", x.grade(1, 4), 3);
        Expect.refuses("grade 2 anew", IllegalStateException.class, () -> x.grade(1, 2));

        ReturnRows mended = Scene.inState(Scene.HERE);
        mended.check(1, 0, false);
        mended.check(1, 0, true);
        Expect.same("the latest check counts", mended.grade(1, 0), -1);
    }

    private static void repairsWork() {
        for (int steps = 1; steps <= 5; steps++) {
            ReturnRows x = Scene.graded(1000, 4);
            x.repair(1, steps);
            Expect.same("in repair", x.told(1, 0), Scene.IN_REPAIR);
            Expect.same("steps left", x.told(1, 9), steps);
            for (int left = steps - 1; left >= 0; left--) {
                grades(x, 4, -1, 4);
                Expect.same("in repair", x.told(1, 0), Scene.IN_REPAIR);
                Expect.same("a step", x.step(1, true), left);
                Expect.same("steps left", x.told(1, 9), left);
            }
            Expect.same("graded again", x.told(1, 0), Scene.GRADED);
            grades(x, 3, 4, 3);
        }
        ReturnRows x = Scene.graded(1000, 1);
        x.repair(1, 1);
        x.step(1, true);
        grades(x, 0, 1, 0);
    }

    private static void repairsFail() {
        ReturnRows x = Scene.graded(1000, 1);
        x.grade(1, 2);
        x.repair(1, 5);
        Expect.same("a step that works", x.step(1, true), 4);
        Expect.same("one that fails", x.step(1, false), 0);
        Expect.same("steps left", x.told(1, 9), 0);
        Expect.same("graded again", x.told(1, 0), Scene.GRADED);
        grades(x, 2, 1, 1);
        x.repair(1, 1);
        Expect.same("the last one fails", x.step(1, false), 0);
        Expect.same("graded again", x.told(1, 0), Scene.GRADED);
        grades(x, 2, 1, 1);
    }

    private static void repairRefusals() {
        for (int state : Scene.STATES) {
            ReturnRows x = Scene.inState(state);
            for (int steps : new int[] {0, -1, 6, Integer.MIN_VALUE, Integer.MAX_VALUE}) {
                Expect.refuses("steps " + steps + " in state " + state, IllegalArgumentException.class,
                        () -> x.repair(1, steps));
                Expect.refuses("steps " + steps + ", no return", NoSuchElementException.class,
                        () -> x.repair(2, steps));
            }
            if (state == Scene.GRADED) {
                Expect.accepts("repair of a graded one", () -> x.repair(1, 5));
            } else {
                Expect.refuses("repair in state " + state, IllegalStateException.class, () -> x.repair(1, 5));
            }
        }
        ReturnRows held = Scene.graded(1000, 2);
        held.quarantine(1, true);
        Expect.refuses("repair in quarantine", IllegalStateException.class, () -> held.repair(1, 1));
        ReturnRows best = Scene.graded(1000, 0);
        Expect.refuses("repair of the best", IllegalStateException.class, () -> best.repair(1, 1));
        Expect.refuses("too many steps for the best", IllegalArgumentException.class, () -> best.repair(1, 6));
    }

    private static void stepRefusals() {
        for (int state : Scene.STATES) {
            ReturnRows x = Scene.inState(state);
            if (state != Scene.IN_REPAIR) {
                Expect.refuses("step in state " + state, IllegalStateException.class, () -> x.step(1, true));
                Expect.refuses("failed step in state " + state, IllegalStateException.class, () -> x.step(1, false));
            }
            Expect.refuses("no return 0", NoSuchElementException.class, () -> x.step(0, true));
            Expect.refuses("no return 2", NoSuchElementException.class, () -> x.step(2, true));
        }
        ReturnRows ended = Scene.graded(1000, 2);
        ended.repair(1, 1);
        ended.step(1, true);
        Expect.refuses("a step behind the last", IllegalStateException.class, () -> ended.step(1, true));
    }

    private static void repairsAndBadChecks() {
        ReturnRows x = Scene.inState(Scene.HERE);
        x.check(1, 1, false);
        x.grade(1, 3);
        x.repair(1, 1);
        x.step(1, true);
        grades(x, 2, 3, 2);
        x.repair(1, 1);
        x.step(1, true);
        grades(x, 1, 2, 1);
        Expect.refuses("the bad check stays", IllegalStateException.class, () -> x.grade(1, 2));
        Expect.same("back with it", x.back(1), 1);
    }
}
