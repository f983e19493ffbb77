/** Promise 17: reason. */
public final class ReasonTest {
    private static final String PART = "Promise 17";

    public static void main(String[] args) {
        Expect.sentence(PART, "Of a reason 0 returns", ReasonTest::returns);
        Expect.sentence(PART, "1 what was paid back", ReasonTest::whatWasPaidBack);
        Expect.sentence(PART, "2 scrapped ones.", ReasonTest::scrappedOnes);
        Expect.sentence(PART, "IllegalArgumentException.", ReasonTest::noSuchReason);
        Expect.sentence(PART, "IllegalArgumentException.", ReasonTest::noSuchNumberOfIt);
        Expect.finish(PART);
    }

    private static void told(ReturnRows x, int what, int... due) {
        for (int reason = 0; reason <= 7; reason++) {
            Expect.same("reason(" + reason + ", " + what + ")", x.reason(reason, what), due[reason]);
        }
    }

    private static void returns() {
        ReturnRows x = Scene.withSales(0, 4);
        told(x, 0, 0, 0, 0, 0, 0, 0, 0, 0);
        x.comes(0, 0, true);
        x.comes(1, 7, false);
        x.comes(2, 7, true);
        x.comes(3, 1, true);
        told(x, 0, 1, 1, 0, 0, 0, 0, 0, 2);
        x.arrive(3, -1);
        x.grade(3, 4);
        x.scrap(3, 1);
        told(x, 0, 1, 1, 0, 0, 0, 0, 0, 2);
        ReturnRows full = Scene.full(0);
        for (int sale = 0; sale < 20; sale++) {
            full.comes(sale, 6, true);
        }
        told(full, 0, 0, 0, 0, 0, 0, 0, 20, 0);
    }

    private static void whatWasPaidBack() {
        ReturnRows x = Scene.withSales(0, 3);
        Scene.addGraded(x, 0, 0, 0);
        Scene.addGraded(x, 1, 7, 3);
        Scene.addGraded(x, 2, 7, 1);
        told(x, 1, 0, 0, 0, 0, 0, 0, 0, 0);
        x.refund(1, 1000);
        x.refund(2, 30);
        x.refund(2, 4);
        x.refund(3, 100);
        told(x, 1, 1000, 0, 0, 0, 0, 0, 0, 134);
        x.scrap(2, 1);
        x.grade(1, 4);
        told(x, 1, 1000, 0, 0, 0, 0, 0, 0, 134);
        ReturnRows full = new ReturnRows();
        for (int sale = 0; sale < 20; sale++) {
            full.sale(0, 100000, 0);
            full.refund(Scene.addGraded(full, sale, 5, 0), 100000);
        }
        told(full, 1, 0, 0, 0, 0, 0, 2000000, 0, 0);
    }

    private static void scrappedOnes() {
        ReturnRows x = Scene.withSales(0, 5);
        Scene.addGraded(x, 0, 0, 3);
        Scene.addGraded(x, 1, 7, 4);
        Scene.addGraded(x, 2, 7, 3);
        Scene.addGraded(x, 3, 7, 4);
        Scene.addGraded(x, 4, 1, 0);
        told(x, 2, 0, 0, 0, 0, 0, 0, 0, 0);
        x.scrap(1, 1);
        x.scrap(2, 2);
        x.scrap(3, 2);
        x.back(5);
        told(x, 2, 1, 0, 0, 0, 0, 0, 0, 1);
        x.scrap(3, 3);
        told(x, 2, 1, 0, 0, 0, 0, 0, 0, 2);
    }

    private static void noSuchReason() {
        for (int what = 0; what <= 2; what++) {
            int asked = what;
            Expect.range("what " + what + " of reason", 0, 7, () -> Scene.inState(Scene.SCRAPPED),
                    (x, reason) -> x.reason(reason, asked));
            Expect.outside("what " + what + " of reason, nothing there", 0, 7, ReturnRows::new,
                    (x, reason) -> x.reason(reason, asked));
        }
    }

    private static void noSuchNumberOfIt() {
        for (int reason : new int[] {0, 7}) {
            Expect.range("reason " + reason + " what", 0, 2, () -> Scene.inState(Scene.SCRAPPED),
                    (x, what) -> x.reason(reason, what));
            Expect.outside("reason " + reason + " what, nothing there", 0, 2, ReturnRows::new,
                    (x, what) -> x.reason(reason, what));
        }
        Expect.outside("reason 8 what", 0, 2, ReturnRows::new, (x, what) -> x.reason(8, what));
    }
}
