/** Promise 11: step. */
public final class StepTest {
    private static final String PART = "Promise 11";

    public static void main(String[] args) {
        Expect.sentence(PART, "The next step of a repair worked", StepTest::worked);
        Expect.sentence(PART, "or failed", StepTest::failed);
        Expect.sentence(PART, "how many steps are left.", StepTest::howManyAreLeft);
        Expect.sentence(PART, "With the last one its grade is better by one", StepTest::betterByOne);
        Expect.sentence(PART, "with one that fails the repair ends", StepTest::theRepairEnds);
        Expect.sentence(PART, "and the grade stays", StepTest::theGradeStays);
        Expect.sentence(PART, "it is GRADED then.", StepTest::isGradedThen);
        Expect.sentence(PART, "IllegalStateException: it is not IN REPAIR.", StepTest::notInRepair);
        Expect.finish(PART);
    }

    private static ReturnRows inRepair(int grade, int steps) {
        ReturnRows x = Scene.inState(Scene.GRADED, grade);
        x.repair(1, steps);
        return x;
    }

    private static void worked() {
        ReturnRows x = inRepair(3, 2);
        x.step(1, true);
        Expect.same("its all", Scene.everythingOf(x, 1), "4 0 0 3 -1 3 0 0 0 1 0 -1 400");
        x.step(1, true);
        Expect.same("its all", Scene.everythingOf(x, 1), "3 0 0 2 3 2 0 0 0 0 0 -1 700");
    }

    private static void failed() {
        ReturnRows x = inRepair(3, 2);
        x.step(1, false);
        Expect.same("its all", Scene.everythingOf(x, 1), "3 0 0 3 -1 3 0 0 0 0 0 -1 400");
    }

    private static void howManyAreLeft() {
        for (int steps = 1; steps <= 5; steps++) {
            ReturnRows x = inRepair(4, steps);
            for (int left = steps - 1; left >= 0; left--) {
                Expect.same("a step that works", x.step(1, true), left);
                Expect.same("told of it", x.told(1, 9), left);
            }
        }
    }

    private static void betterByOne() {
        for (int grade = 1; grade <= 4; grade++) {
            for (int steps : new int[] {1, 2, 5}) {
                ReturnRows x = inRepair(grade, steps);
                for (int i = 1; i < steps; i++) {
                    x.step(1, true);
                    Expect.same("its grade before the last step", x.told(1, 3), grade);
                }
                x.step(1, true);
                Expect.same("its grade", x.told(1, 3), grade - 1);
                Expect.same("the grade before", x.told(1, 4), grade);
                Expect.same("the best grade", x.told(1, 5), grade - 1);
            }
        }
    }

    private static void theRepairEnds() {
        for (int steps = 1; steps <= 5; steps++) {
            for (int works = 0; works < steps; works++) {
                ReturnRows x = inRepair(3, steps);
                for (int i = 0; i < works; i++) {
                    x.step(1, true);
                }
                Expect.same("a step that fails", x.step(1, false), 0);
                Expect.same("steps left", x.told(1, 9), 0);
                Expect.refuses("another step", IllegalStateException.class, () -> x.step(1, true));
            }
        }
    }

    private static void theGradeStays() {
        for (int grade = 1; grade <= 4; grade++) {
            ReturnRows x = Scene.inState(Scene.GRADED, 2);
            x.grade(1, grade);
            x.repair(1, 2);
            x.step(1, true);
            x.step(1, false);
            Expect.same("its grade", x.told(1, 3), grade);
            Expect.same("the grade before", x.told(1, 4), 2);
            Expect.same("the best grade", x.told(1, 5), Math.min(2, grade));
        }
    }

    private static void isGradedThen() {
        ReturnRows mended = inRepair(3, 2);
        mended.step(1, true);
        Expect.same("before the last step", mended.told(1, 0), Scene.IN_REPAIR);
        mended.step(1, true);
        Expect.same("behind it", mended.told(1, 0), Scene.GRADED);
        ReturnRows broken = inRepair(3, 2);
        broken.step(1, false);
        Expect.same("behind one that failed", broken.told(1, 0), Scene.GRADED);
    }

    private static void notInRepair() {
        Expect.states("step that works", x -> x.step(1, true), Scene.IN_REPAIR);
        Expect.states("step that fails", x -> x.step(1, false), Scene.IN_REPAIR);
        ReturnRows ended = inRepair(2, 1);
        ended.step(1, true);
        Expect.refuses("a step behind the last", IllegalStateException.class, () -> ended.step(1, true));
    }
}
