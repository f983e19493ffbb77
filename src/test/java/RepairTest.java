/** Promise 10: repair. */
public final class RepairTest {
    private static final String PART = "Promise 10";

    public static void main(String[] args) {
        Expect.sentence(PART, "A GRADED return comes into repair", RepairTest::comesIntoRepair);
        Expect.sentence(PART, "for so many steps (1 .. 5)", RepairTest::forSoManySteps);
        Expect.sentence(PART, "IN REPAIR.", RepairTest::isInRepair);
        Expect.sentence(PART, "IllegalStateException: it is not GRADED", RepairTest::notGraded);
        Expect.sentence(PART, "or quarantined", RepairTest::quarantined);
        Expect.sentence(PART, "or its grade is 0.", RepairTest::itsGradeIs0);
        Expect.finish(PART);
    }

    private static void comesIntoRepair() {
        for (int grade = 1; grade <= 4; grade++) {
            ReturnRows x = Scene.inState(Scene.GRADED, grade);
            Expect.accepts("repair with grade " + grade, () -> x.repair(1, 1));
            Expect.same("its grade stays", x.told(1, 3), grade);
        }
        ReturnRows again = Scene.inState(Scene.IN_REPAIR);
        again.step(1, false);
        Expect.accepts("once more behind one that failed", () -> again.repair(1, 5));
        Expect.same("steps left", again.told(1, 9), 5);
    }

    private static void forSoManySteps() {
        Expect.range("repair", 1, 5, () -> Scene.inState(Scene.GRADED), (x, steps) -> x.repair(1, steps));
        for (int steps = 1; steps <= 5; steps++) {
            ReturnRows x = Scene.inState(Scene.GRADED);
            x.repair(1, steps);
            Expect.same("steps left", x.told(1, 9), steps);
        }
        Expect.outsideInEachState("repair", 1, 5, (x, steps) -> x.repair(1, steps));
    }

    private static void isInRepair() {
        ReturnRows x = Scene.inState(Scene.GRADED);
        x.repair(1, 5);
        Expect.same("its all", Scene.everythingOf(x, 1), "4 0 0 3 -1 3 0 0 0 5 0 -1 400");
    }

    private static void notGraded() {
        Expect.states("repair", x -> x.repair(1, 1), Scene.GRADED);
        Expect.states("repair of five steps", x -> x.repair(1, 5), Scene.GRADED);
    }

    private static void quarantined() {
        for (int grade = 1; grade <= 4; grade++) {
            int held = grade;
            Expect.refused("repair with grade " + grade, IllegalStateException.class,
                    () -> Scene.quarantined(Scene.GRADED, held), x -> x.repair(1, 1));
        }
        ReturnRows x = Scene.quarantined(Scene.GRADED, 1);
        x.quarantine(1, false);
        Expect.accepts("repair behind it", () -> x.repair(1, 1));
    }

    private static void itsGradeIs0() {
        Expect.refused("repair of the best", IllegalStateException.class, () -> Scene.inState(Scene.GRADED, 0),
                x -> x.repair(1, 1));
        Expect.taken("repair with grade 1", () -> Scene.inState(Scene.GRADED, 1), x -> x.repair(1, 1));
        ReturnRows mended = Scene.inState(Scene.GRADED, 1);
        mended.repair(1, 1);
        mended.step(1, true);
        Expect.refuses("repair when a repair has made it 0", IllegalStateException.class, () -> mended.repair(1, 1));
    }
}
