/** Promise 9: grade. */
public final class GradeTest {
    private static final String PART = "Promise 9";

    public static void main(String[] args) {
        Expect.sentence(PART, "A return is graded (HERE", GradeTest::isGraded);
        Expect.sentence(PART, "or GRADED anew)", GradeTest::gradedAnew);
        Expect.sentence(PART, "its grade before", GradeTest::itsGradeBefore);
        Expect.sentence(PART, "-1 without.", GradeTest::withoutOne);
        Expect.sentence(PART, "IllegalStateException: it is neither", GradeTest::itIsNeither);
        Expect.sentence(PART, "or quarantined", GradeTest::quarantined);
        Expect.sentence(PART, "or it has a bad check and the grade is better than 3.", GradeTest::withABadCheck);
        Expect.finish(PART);
    }

    private static void isGraded() {
        for (int grade = 0; grade <= 4; grade++) {
            ReturnRows x = Scene.inState(Scene.HERE);
            x.grade(1, grade);
            Expect.same("its state", x.told(1, 0), Scene.GRADED);
            Expect.same("its grade", x.told(1, 3), grade);
        }
    }

    private static void gradedAnew() {
        for (int first = 0; first <= 4; first++) {
            for (int second = 0; second <= 4; second++) {
                ReturnRows x = Scene.inState(Scene.GRADED, first);
                x.grade(1, second);
                Expect.same("its state", x.told(1, 0), Scene.GRADED);
                Expect.same("its grade", x.told(1, 3), second);
            }
        }
    }

    private static void itsGradeBefore() {
        ReturnRows x = Scene.inState(Scene.GRADED, 2);
        Expect.same("worse", x.grade(1, 4), 2);
        Expect.same("the same", x.grade(1, 4), 4);
        Expect.same("the best", x.grade(1, 0), 4);
        Expect.same("worse again", x.grade(1, 1), 0);
        ReturnRows mended = Scene.inState(Scene.GRADED, 2);
        mended.repair(1, 1);
        mended.step(1, true);
        Expect.same("behind a repair", mended.grade(1, 3), 1);
    }

    private static void withoutOne() {
        for (int grade = 0; grade <= 4; grade++) {
            Expect.same("the first grade, " + grade, Scene.inState(Scene.HERE).grade(1, grade), -1);
        }
    }

    private static void itIsNeither() {
        for (int grade : new int[] {0, 1, 3, 4}) {
            Expect.states("grade " + grade, x -> x.grade(1, grade), Scene.HERE, Scene.GRADED);
        }
    }

    private static void quarantined() {
        for (int state : new int[] {Scene.HERE, Scene.GRADED}) {
            for (int grade = 0; grade <= 4; grade++) {
                int anew = grade;
                Expect.refused("grade " + grade + " in quarantine", IllegalStateException.class,
                        () -> Scene.quarantined(state, 3), x -> x.grade(1, anew));
            }
            ReturnRows x = Scene.quarantined(state, 3);
            x.quarantine(1, false);
            Expect.accepts("grade behind it", () -> x.grade(1, 0));
        }
    }

    private static void withABadCheck() {
        for (int check = 0; check <= 4; check++) {
            int bad = check;
            for (int grade = 0; grade <= 2; grade++) {
                int tooGood = grade;
                Expect.refused("grade " + grade + " with check " + check, IllegalStateException.class,
                        () -> Scene.withBadCheck(bad), x -> x.grade(1, tooGood));
            }
            Expect.taken("grade 3 with check " + check, () -> Scene.withBadCheck(bad), x -> x.grade(1, 3));
            Expect.taken("grade 4 with check " + check, () -> Scene.withBadCheck(bad), x -> x.grade(1, 4));
        }
        Expect.refused("grade 2 anew", IllegalStateException.class, GradeTest::gradedWithABadCheck,
                x -> x.grade(1, 2));
        Expect.taken("grade 4 anew", GradeTest::gradedWithABadCheck, x -> x.grade(1, 4));
        Expect.taken("grade 0 without a bad one", () -> Scene.inState(Scene.HERE), x -> x.grade(1, 0));
    }

    private static ReturnRows gradedWithABadCheck() {
        ReturnRows x = Scene.withBadCheck(1);
        x.grade(1, 3);
        return x;
    }
}
