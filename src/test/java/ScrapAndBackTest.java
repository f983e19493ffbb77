import java.util.NoSuchElementException;

/** Promises 12 and 13: scrap with certificates, and resale. */
public final class ScrapAndBackTest {
    public static void main(String[] args) {
        certificatesAreUsedOnce();
        scrapByStates();
        scrapByGrades();
        certificateRange();
        backByClasses();
        backByStates();
        backByGrades();
        backRefusals();
        backByDays();
        Expect.finish();
    }

    private static void certificatesAreUsedOnce() {
        ReturnRows x = Scene.withSales(0, 4);
        for (int sale = 0; sale < 4; sale++) {
            Scene.addGraded(x, sale, 1, 3 + sale % 2);
        }
        Expect.same("certificate 1", x.scrap(1, 1) ? 1 : 0, 1);
        Expect.same("scrapped", x.told(1, 0), Scene.SCRAPPED);
        Expect.same("certificate 1 again", x.scrap(2, 1) ? 1 : 0, 0);
        Expect.same("not scrapped", x.told(2, 0), Scene.GRADED);
        Expect.same("certificate 1000", x.scrap(2, 1000) ? 1 : 0, 1);
        Expect.same("certificate 1000 again", x.scrap(3, 1000) ? 1 : 0, 0);
        Expect.same("certificate 1 a third time", x.scrap(3, 1) ? 1 : 0, 0);
        Expect.same("certificate 2", x.scrap(3, 2) ? 1 : 0, 1);
        Expect.refuses("a used one for a scrapped one", IllegalStateException.class, () -> x.scrap(3, 2));
        Expect.same("scrapped for the reason", x.reason(1, 2), 3);

        // A refused scrap leaves its certificate free.
        x.grade(4, 2);
        Expect.refuses("too good", IllegalStateException.class, () -> x.scrap(4, 3));
        Expect.refuses("too good, and a used one", IllegalStateException.class, () -> x.scrap(4, 1));
        x.grade(4, 4);
        Expect.same("certificate 3", x.scrap(4, 3) ? 1 : 0, 1);
    }

    private static void scrapByStates() {
        for (int state : Scene.STATES) {
            ReturnRows x = Scene.inState(state);
            if (state == Scene.GRADED) {
                Expect.same("scrap of a graded one", x.scrap(1, 5) ? 1 : 0, 1);
            } else {
                Expect.refuses("scrap in state " + state, IllegalStateException.class, () -> x.scrap(1, 5));
            }
        }
    }

    private static void scrapByGrades() {
        for (int grade = 0; grade <= 4; grade++) {
            ReturnRows x = Scene.graded(1000, grade);
            if (grade >= 3) {
                Expect.same("scrap with grade " + grade, x.scrap(1, 5) ? 1 : 0, 1);
            } else {
                Expect.refuses("scrap with grade " + grade, IllegalStateException.class, () -> x.scrap(1, 5));
            }
        }
    }

    private static void certificateRange() {
        for (int state : Scene.STATES) {
            ReturnRows x = Scene.inState(state);
            for (int certificate : new int[] {0, -1, 1001, Integer.MIN_VALUE, Integer.MAX_VALUE}) {
                Expect.refuses("certificate " + certificate + " in state " + state, IllegalArgumentException.class,
                        () -> x.scrap(1, certificate));
                Expect.refuses("certificate " + certificate + ", no return", NoSuchElementException.class,
                        () -> x.scrap(2, certificate));
            }
        }
    }

    private static void backByClasses() {
        ReturnRows x = Scene.withSales(0, 6);
        int[] grades = {0, 1, 2, 1, 2, 2};
        int[] due = {1, 1, 1, 2, 2, 3};
        for (int sale = 0; sale < 6; sale++) {
            int number = Scene.addGraded(x, sale, 0, grades[sale]);
            Expect.same("back with grade " + grades[sale], x.back(number), due[sale]);
            Expect.same("its state", x.told(number, 0), Scene.BACK);
        }
        Expect.same("class 0", x.count(4), 1);
        Expect.same("class 1", x.count(5), 2);
        Expect.same("class 2", x.count(6), 3);
    }

    private static void backByStates() {
        for (int state : Scene.STATES) {
            ReturnRows x = Scene.inState(state);
            if (state == Scene.GRADED) {
                x.grade(1, 2);
                Expect.same("back of a graded one", x.back(1), 1);
            } else {
                Expect.refuses("back in state " + state, IllegalStateException.class, () -> x.back(1));
            }
        }
        ReturnRows inRepair = Scene.graded(1000, 2);
        inRepair.repair(1, 1);
        Expect.refuses("back in repair with grade 2", IllegalStateException.class, () -> inRepair.back(1));
    }

    private static void backByGrades() {
        for (int grade = 0; grade <= 4; grade++) {
            ReturnRows x = Scene.graded(1000, grade);
            if (grade <= 2) {
                Expect.same("back with grade " + grade, x.back(1), 1);
            } else {
                Expect.refuses("back with grade " + grade, IllegalStateException.class, () -> x.back(1));
            }
        }
    }

    private static void backRefusals() {
        ReturnRows held = Scene.graded(1000, 0);
        held.quarantine(1, true);
        Expect.refuses("back in quarantine", IllegalStateException.class, () -> held.back(1));
        held.quarantine(1, false);
        Expect.same("back behind it", held.back(1), 1);

        ReturnRows wrong = Scene.inState(Scene.HERE);
        wrong.serial(1, 1);
        wrong.grade(1, 0);
        Expect.refuses("back of a wrong one", IllegalStateException.class, () -> wrong.back(1));
        for (int number : new int[] {-1, 0, 2, 20, 21, Integer.MIN_VALUE, Integer.MAX_VALUE}) {
            Expect.refuses("no return " + number, NoSuchElementException.class, () -> wrong.back(number));
        }
    }

    private static void backByDays() {
        ReturnRows x = Scene.graded(1000, 1);
        x.day(500);
        Expect.same("on the lot's last day", x.back(1), 1);
        ReturnRows late = Scene.graded(1000, 1);
        late.day(501);
        Expect.refuses("a day behind it", IllegalStateException.class, () -> late.back(1));
        Expect.same("still graded", late.told(1, 0), Scene.GRADED);
    }
}
