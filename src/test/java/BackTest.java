/** Promise 13: back. */
public final class BackTest {
    private static final String PART = "Promise 13";

    public static void main(String[] args) {
        Expect.sentence(PART, "A GRADED return comes back into sale", BackTest::isBack);
        Expect.sentence(PART, "how many of its class there are then.", BackTest::howManyOfItsClass);
        Expect.sentence(PART, "how many of its class there are then.", BackTest::allTwenty);
        Expect.sentence(PART, "IllegalStateException: it is not GRADED", BackTest::notGraded);
        Expect.sentence(PART, "or quarantined", BackTest::quarantined);
        Expect.sentence(PART, "WRONG", BackTest::wrong);
        Expect.sentence(PART, "its grade is above 2", BackTest::above2);
        Expect.sentence(PART, "or today is behind its lot's last day.", BackTest::behindItsLastDay);
        Expect.finish(PART);
    }

    private static void isBack() {
        ReturnRows x = Scene.inState(Scene.GRADED, 2);
        x.back(1);
        Expect.same("its all", Scene.everythingOf(x, 1), "6 0 0 2 -1 2 0 0 0 0 0 -1 700");
        Expect.same("BACK of class 2", x.count(6), 1);
    }

    private static void howManyOfItsClass() {
        ReturnRows x = Scene.withSales(0, 6);
        int[] grades = {0, 1, 2, 1, 2, 2};
        int[] due = {1, 1, 1, 2, 2, 3};
        for (int sale = 0; sale < 6; sale++) {
            int number = Scene.addGraded(x, sale, 0, grades[sale]);
            Expect.same("back with grade " + grades[sale], x.back(number), due[sale]);
        }
        // Graded alike, but not back in sale.
        ReturnRows some = Scene.withSales(0, 2);
        Scene.addGraded(some, 0, 0, 1);
        Scene.addGraded(some, 1, 0, 1);
        Expect.same("the first that is back", some.back(2), 1);
    }

    private static void allTwenty() {
        ReturnRows x = Scene.full(0);
        for (int sale = 0; sale < 20; sale++) {
            Expect.same("back of sale " + sale, x.back(Scene.addGraded(x, sale, 0, 0)), sale + 1);
        }
    }

    private static void notGraded() {
        for (int state : Scene.STATES) {
            if (state != Scene.GRADED) {
                Expect.refused("back in state " + state, IllegalStateException.class, () -> Scene.inState(state),
                        x -> x.back(1));
            }
        }
        for (int grade : new int[] {1, 2}) {
            Expect.refused("back in repair with grade " + grade, IllegalStateException.class,
                    () -> Scene.inState(Scene.IN_REPAIR, grade), x -> x.back(1));
        }
    }

    private static void quarantined() {
        for (int grade = 0; grade <= 2; grade++) {
            int held = grade;
            Expect.refused("back with grade " + grade, IllegalStateException.class,
                    () -> Scene.quarantined(Scene.GRADED, held), x -> x.back(1));
        }
        ReturnRows x = Scene.quarantined(Scene.GRADED, 0);
        x.quarantine(1, false);
        Expect.same("back behind it", x.back(1), 1);
    }

    private static void wrong() {
        for (int grade = 0; grade <= 2; grade++) {
            int given = grade;
            Expect.refused("back with grade " + grade, IllegalStateException.class, () -> Scene.wrong(given),
                    x -> x.back(1));
        }
        ReturnRows x = Scene.wrong();
        x.serial(1, 0);
        x.grade(1, 0);
        Expect.same("back with its own read later", x.back(1), 1);
    }

    private static void above2() {
        for (int grade = 0; grade <= 2; grade++) {
            Expect.same("back with grade " + grade, Scene.inState(Scene.GRADED, grade).back(1), 1);
        }
        for (int grade = 3; grade <= 4; grade++) {
            int tooBad = grade;
            Expect.refused("back with grade " + grade, IllegalStateException.class,
                    () -> Scene.inState(Scene.GRADED, tooBad), x -> x.back(1));
        }
    }

    private static ReturnRows ofLot(int lastDay, int today) {
        ReturnRows x = new ReturnRows();
        x.sale(0, 1000, lastDay);
        Scene.addGraded(x, 0, 0, 1);
        x.day(today);
        return x;
    }

    private static void behindItsLastDay() {
        for (int lastDay : new int[] {0, 1, 500, 999}) {
            Expect.same("back on the lot's last day " + lastDay, ofLot(lastDay, lastDay).back(1), 1);
            Expect.refused("back a day behind " + lastDay, IllegalStateException.class,
                    () -> ofLot(lastDay, lastDay + 1), x -> x.back(1));
            Expect.refused("back on the last of all days", IllegalStateException.class,
                    () -> ofLot(lastDay, 1000), x -> x.back(1));
        }
        Expect.same("back a day before the lot's last day", ofLot(500, 499).back(1), 1);
        Expect.same("back on the last of all days", ofLot(1000, 1000).back(1), 1);
        ReturnRows stale = new ReturnRows();
        stale.day(9);
        stale.sale(0, 1000, 8);
        Scene.addGraded(stale, 0, 0, 0);
        Expect.refuses("back of a lot that was over when sold", IllegalStateException.class, () -> stale.back(1));
    }
}
