/** Promise 12: scrap. */
public final class ScrapTest {
    private static final String PART = "Promise 12";

    public static void main(String[] args) {
        Expect.sentence(PART, "A GRADED return is scrapped", ScrapTest::isScrapped);
        Expect.sentence(PART, "with a certificate (1 .. 1000)", ScrapTest::withACertificate);
        Expect.sentence(PART, "true", ScrapTest::unused);
        Expect.sentence(PART, "false if this certificate was used.", ScrapTest::used);
        Expect.sentence(PART, "false if this certificate was used.", ScrapTest::notUsedByARefusedOne);
        Expect.sentence(PART, "IllegalStateException: it is not GRADED", ScrapTest::notGraded);
        Expect.sentence(PART, "or its grade is better than 3.", ScrapTest::betterThan3);
        Expect.finish(PART);
    }

    private static void isScrapped() {
        ReturnRows x = Scene.inState(Scene.GRADED);
        x.scrap(1, 1);
        Expect.same("its all", Scene.everythingOf(x, 1), "5 0 0 3 -1 3 0 0 0 0 0 -1 400");
        Expect.same("scrapped for the reason", x.reason(0, 2), 1);
        // Neither quarantine nor a wrong serial is among the reasons against it.
        Expect.same("in quarantine", Scene.quarantined(Scene.GRADED, 4).scrap(1, 1), true);
        Expect.same("a WRONG one", Scene.wrong(3).scrap(1, 1), true);
    }

    private static void withACertificate() {
        Expect.range("scrap", 1, 1000, () -> Scene.inState(Scene.GRADED), (x, number) -> x.scrap(1, number));
        Expect.outsideInEachState("scrap", 1, 1000, (x, number) -> x.scrap(1, number));
    }

    private static ReturnRows threeGraded() {
        ReturnRows x = Scene.withSales(0, 3);
        for (int sale = 0; sale < 3; sale++) {
            Scene.addGraded(x, sale, 1, 3 + sale % 2);
        }
        return x;
    }

    private static void unused() {
        ReturnRows x = threeGraded();
        Expect.same("certificate 1", x.scrap(1, 1), true);
        Expect.same("certificate 1000", x.scrap(2, 1000), true);
        Expect.same("certificate 2", x.scrap(3, 2), true);
        Expect.same("scrapped for the reason", x.reason(1, 2), 3);
    }

    private static void used() {
        for (int certificate : new int[] {1, 2, 999, 1000}) {
            ReturnRows x = threeGraded();
            x.scrap(1, certificate);
            Expect.same("used by another", x.scrap(2, certificate), false);
            Expect.same("its state stays", x.told(2, 0), Scene.GRADED);
            Expect.same("used, a third time", x.scrap(3, certificate), false);
            Expect.same("scrapped for the reason", x.reason(1, 2), 1);
            Expect.same("with an unused one then", x.scrap(2, 500), true);
            Expect.same("the first is used still", x.scrap(3, certificate), false);
            Expect.same("the second is used too", x.scrap(3, 500), false);
        }
    }

    private static void notUsedByARefusedOne() {
        ReturnRows x = threeGraded();
        x.grade(1, 2);
        Expect.refuses("too good", IllegalStateException.class, () -> x.scrap(1, 7));
        Expect.same("its certificate is unused", x.scrap(2, 7), true);
        Expect.refuses("too good, with a used one", IllegalStateException.class, () -> x.scrap(1, 7));
        Expect.refuses("scrapped, with its own", IllegalStateException.class, () -> x.scrap(2, 7));
        Expect.same("not asked for by a false one", x.scrap(3, 7), false);
        Expect.same("the third with another", x.scrap(3, 8), true);
    }

    private static void notGraded() {
        Expect.states("scrap", x -> x.scrap(1, 1), Scene.GRADED);
        Expect.refused("scrap in repair with grade 4", IllegalStateException.class,
                () -> Scene.inState(Scene.IN_REPAIR, 4), x -> x.scrap(1, 1));
    }

    private static void betterThan3() {
        for (int grade = 0; grade <= 2; grade++) {
            int tooGood = grade;
            Expect.refused("scrap with grade " + grade, IllegalStateException.class,
                    () -> Scene.inState(Scene.GRADED, tooGood), x -> x.scrap(1, 1));
        }
        Expect.same("with grade 3", Scene.inState(Scene.GRADED, 3).scrap(1, 1), true);
        Expect.same("with grade 4", Scene.inState(Scene.GRADED, 4).scrap(1, 1), true);
    }
}
