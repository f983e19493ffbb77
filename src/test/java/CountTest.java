/** Promise 20: count. */
public final class CountTest {
    private static final String PART = "Promise 20";

    public static void main(String[] args) {
        Expect.sentence(PART, "0 sales", CountTest::sales);
        Expect.sentence(PART, "1 returns", CountTest::returns);
        Expect.sentence(PART, "2 today", CountTest::today);
        Expect.sentence(PART, "3 quarantined ones", CountTest::quarantinedOnes);
        Expect.sentence(PART, "4 to 6 those BACK of class 0 to 2", CountTest::thoseBack);
        Expect.sentence(PART, "7 what was paid back in all", CountTest::paidInAll);
        Expect.sentence(PART, "-1 for another what.", CountTest::anotherWhat);
        Expect.finish(PART);
    }

    private static void sales() {
        for (int sales : new int[] {0, 1, 19, 20}) {
            Expect.same("sales", Scene.withSales(0, sales).count(0), sales);
        }
        ReturnRows x = Scene.withSales(0, 20);
        Expect.refuses("a 21st", UnsupportedOperationException.class, () -> x.sale(0, 1, 0));
        Expect.same("sales behind it", x.count(0), 20);
    }

    private static void returns() {
        for (int returns : new int[] {0, 1, 19, 20}) {
            Expect.same("returns", Scene.full(returns).count(1), returns);
        }
        for (int state : Scene.STATES) {
            Expect.same("returns in state " + state, Scene.inState(state).count(1), 1);
        }
    }

    private static void today() {
        ReturnRows x = new ReturnRows();
        Expect.same("at first", x.count(2), 0);
        for (int day : new int[] {1, 999, 1000}) {
            x.day(day);
            Expect.same("today", x.count(2), day);
        }
    }

    private static void quarantinedOnes() {
        ReturnRows x = Scene.full(0);
        for (int sale = 0; sale < 20; sale++) {
            x.quarantine(Scene.addHere(x, sale, 0), true);
            Expect.same("quarantined", x.count(3), sale + 1);
        }
        x.quarantine(20, false);
        x.quarantine(1, false);
        Expect.same("but two", x.count(3), 18);
        ReturnRows scrapped = Scene.quarantined(Scene.GRADED, 3);
        scrapped.scrap(1, 1);
        Expect.same("a scrapped one", scrapped.count(3), 1);
    }

    private static void thoseBack() {
        for (int grade = 0; grade <= 2; grade++) {
            ReturnRows x = Scene.full(0);
            int many = grade + 2;
            for (int sale = 0; sale <= many; sale++) {
                Scene.addGraded(x, sale, 0, grade);
            }
            for (int number = 1; number <= many; number++) {
                x.back(number);
            }
            for (int of = 0; of <= 2; of++) {
                Expect.same("class " + of, x.count(4 + of), of == grade ? many : 0);
            }
        }
        for (int state = Scene.ANNOUNCED; state <= Scene.SCRAPPED; state++) {
            ReturnRows x = Scene.inState(state);
            Expect.same("none in state " + state, x.count(4) + x.count(5) + x.count(6), 0);
        }
    }

    private static void paidInAll() {
        ReturnRows x = new ReturnRows();
        for (int sale = 0; sale < 20; sale++) {
            x.sale(sale % 6, 100000, 0);
            x.refund(Scene.addGraded(x, sale, sale % 8, 0), 100000);
            Expect.same("paid in all", x.count(7), 100000 * (sale + 1));
        }
        ReturnRows some = Scene.graded(1000, 3);
        some.refund(1, 1);
        some.refund(1, 2);
        some.scrap(1, 1);
        Expect.same("paid, and scrapped then", some.count(7), 3);
    }

    private static void anotherWhat() {
        for (int what : new int[] {-1, -2, 8, 9, Integer.MIN_VALUE, Integer.MAX_VALUE}) {
            Expect.same("count(" + what + ")", Scene.inState(Scene.BACK).count(what), -1);
            Expect.same("count(" + what + "), nothing there", new ReturnRows().count(what), -1);
        }
    }
}
