/** Promise 14: missing. */
public final class MissingTest {
    private static final String PART = "Promise 14";

    public static void main(String[] args) {
        Expect.sentence(PART, "So many pieces (0 .. 10)", MissingTest::soMany);
        Expect.sentence(PART, "are missing of a return", MissingTest::ofThisReturn);
        Expect.sentence(PART, "now.", MissingTest::now);
        Expect.sentence(PART, "IllegalStateException: it is not HERE or GRADED.", MissingTest::neitherHereNorGraded);
        Expect.finish(PART);
    }

    private static void soMany() {
        Expect.range("missing", 0, 10, () -> Scene.inState(Scene.HERE), (x, n) -> x.missing(1, n));
        Expect.range("missing", 0, 10, () -> Scene.inState(Scene.GRADED), (x, n) -> x.missing(1, n));
        Expect.outsideInEachState("missing", 0, 10, (x, n) -> x.missing(1, n));
        for (int n = 0; n <= 10; n++) {
            ReturnRows x = Scene.graded(1000, 0);
            x.missing(1, n);
            Expect.same("due with " + n + " missing", x.due(1), 1000 - 100 * n);
        }
    }

    private static void ofThisReturn() {
        ReturnRows x = Scene.withSales(0, 2);
        Scene.addGraded(x, 0, 0, 0);
        Scene.addGraded(x, 1, 0, 0);
        x.missing(2, 3);
        Expect.same("due of the other", x.due(1), 1000);
        Expect.same("due of this", x.due(2), 700);
        Expect.same("its state stays", x.told(2, 0), Scene.GRADED);
    }

    private static void now() {
        ReturnRows x = Scene.graded(1000, 0);
        x.missing(1, 10);
        x.missing(1, 4);
        Expect.same("the latest number counts", x.due(1), 600);
        x.missing(1, 4);
        Expect.same("the same number again", x.due(1), 600);
        x.missing(1, 0);
        Expect.same("all were found", x.due(1), 1000);
        ReturnRows early = Scene.inState(Scene.HERE);
        early.missing(1, 4);
        Expect.same("due before a grade", early.due(1), 0);
        early.grade(1, 0);
        Expect.same("due behind it", early.due(1), 600);
        early.grade(1, 1);
        Expect.same("due graded anew", early.due(1), 500);
    }

    private static void neitherHereNorGraded() {
        Expect.states("one missing", x -> x.missing(1, 1), Scene.HERE, Scene.GRADED);
        Expect.states("none missing", x -> x.missing(1, 0), Scene.HERE, Scene.GRADED);
        for (int state : new int[] {Scene.HERE, Scene.GRADED}) {
            Expect.taken("missing in quarantine", () -> Scene.quarantined(state, 3), x -> x.missing(1, 1));
        }
        Expect.taken("missing of a WRONG one", Scene::wrong, x -> x.missing(1, 1));
    }
}
