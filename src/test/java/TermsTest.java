/** The Terms of the document, but for DUE (in DueTest) and REFUSALS (in RefusalsTest). */
public final class TermsTest {
    private static final String DAYS = "DAYS";
    private static final String RETURNS = "RETURNS";
    private static final String GRADES = "GRADES";
    private static final String CLASSES = "CLASSES";

    public static void main(String[] args) {
        Expect.sentence(DAYS, "DAYS are 0 .. 1000", TermsTest::days);
        Expect.sentence(DAYS, "today is 0 at first", TermsTest::todayAtFirst);
        Expect.sentence(DAYS, "and goes on.", TermsTest::todayGoesOn);
        Expect.sentence(DAYS, "SALES 0, 1, ..", TermsTest::saleNumbers);
        Expect.sentence(DAYS, "(at most 20, as they come)", TermsTest::twentySales);
        Expect.sentence(DAYS, "a customer 0 .. 5", TermsTest::customers);
        Expect.sentence(DAYS, "a price 1 .. 100000", TermsTest::prices);
        Expect.sentence(DAYS, "the last day of its lot (0 .. 1000)", TermsTest::lastDays);
        Expect.sentence(DAYS, "sold today.", TermsTest::soldToday);
        Expect.sentence(RETURNS, "RETURNS 1, 2, ..", TermsTest::returnNumbers);
        Expect.sentence(RETURNS, "(at most 20)", TermsTest::twentyReturns);
        Expect.sentence(RETURNS, "a sale (of each one at most)", TermsTest::ofEachSaleOne);
        Expect.sentence(RETURNS, "a REASON 0 .. 7", TermsTest::reasons);
        Expect.sentence(RETURNS, "a STATE: 0 ANNOUNCED, 1 WAITING, 2 HERE, 3 GRADED, 4 IN REPAIR, 5 SCRAPPED, 6 BACK.",
                TermsTest::states);
        Expect.sentence(RETURNS, "A return may be QUARANTINED", TermsTest::quarantined);
        Expect.sentence(RETURNS, "and WRONG (its serial is that of another sale).", TermsTest::wrong);
        Expect.sentence(GRADES, "GRADES are 0 (the best) .. 4", TermsTest::grades);
        Expect.sentence(GRADES, "a return has none at first.", TermsTest::noGradeAtFirst);
        Expect.sentence(GRADES, "CHECKS 0 .. 4 are good or bad", TermsTest::checks);
        Expect.sentence(GRADES, "told anew the latest counts", TermsTest::theLatestCheckCounts);
        Expect.sentence(GRADES, "with a bad check it can't be graded better than 3", TermsTest::badChecks);
        Expect.sentence(GRADES, "(a repair that works makes it better all the same).", TermsTest::repairsWithBadChecks);
        Expect.sentence(CLASSES, "CLASSES of resale are 0 .. 2, as the grades.", TermsTest::classes);
        Expect.finish(DAYS, RETURNS, GRADES, CLASSES);
    }

    private static void days() {
        Expect.range("day", 0, 1000, ReturnRows::new, ReturnRows::day);
    }

    private static void todayAtFirst() {
        Expect.same("today", new ReturnRows().count(2), 0);
        Expect.accepts("day 0 on the first day", () -> new ReturnRows().day(0));
    }

    private static void todayGoesOn() {
        ReturnRows x = new ReturnRows();
        x.day(3);
        Expect.refuses("back to day 2", IllegalArgumentException.class, () -> x.day(2));
        Expect.same("today", x.count(2), 3);
        x.day(4);
        Expect.same("a day later", x.count(2), 4);
    }

    private static void saleNumbers() {
        ReturnRows x = new ReturnRows();
        Expect.same("the first sale", x.sale(5, 9, 9), 0);
        Expect.same("the second", x.sale(0, 8, 8), 1);
        Expect.same("the third", x.sale(5, 9, 9), 2);
    }

    private static void twentySales() {
        ReturnRows x = Scene.withSales(3, 19);
        Expect.same("the 20th", x.sale(3, 1, 1), 19);
        Expect.refused("a 21st", UnsupportedOperationException.class, () -> Scene.withSales(3, 20),
                full -> full.sale(3, 1, 1));
        Expect.refused("a 21st with all returns", UnsupportedOperationException.class, () -> Scene.full(20),
                full -> full.sale(0, 1, 1));
    }

    private static void customers() {
        Expect.range("customer", 0, 5, ReturnRows::new, (x, customer) -> x.sale(customer, 1, 0));
    }

    private static void prices() {
        Expect.range("price", 1, 100000, ReturnRows::new, (x, price) -> x.sale(0, price, 0));
    }

    private static void lastDays() {
        Expect.range("last day", 0, 1000, ReturnRows::new, (x, lastDay) -> x.sale(0, 1, lastDay));
        Expect.range("last day, sold on day 1000", 0, 1000, TermsTest::onTheLastDay,
                (x, lastDay) -> x.sale(0, 1, lastDay));
    }

    private static ReturnRows onTheLastDay() {
        ReturnRows x = new ReturnRows();
        x.day(1000);
        return x;
    }

    private static void soldToday() {
        for (int sold : new int[] {0, 1, 969}) {
            for (int later : new int[] {30, 31}) {
                ReturnRows x = new ReturnRows();
                x.day(sold);
                x.sale(0, 1000, 1000);
                x.day(sold + later);
                Scene.addGraded(x, 0, 0, 0);
                Expect.same("due " + later + " days behind day " + sold, x.due(1), later == 30 ? 1000 : 0);
            }
        }
    }

    private static void returnNumbers() {
        ReturnRows x = Scene.withSales(0, 3);
        Expect.same("the first return", x.comes(2, 0, true), 1);
        Expect.same("the second", x.comes(0, 0, false), 2);
        Expect.same("the third", x.comes(1, 0, true), 3);
    }

    // One return of each of 20 sales at most: a 21st is refused for its sale before it is for the room.
    private static void twentyReturns() {
        Expect.same("the 20th", Scene.full(19).comes(19, 0, true), 20);
        for (int sale = 0; sale <= 19; sale++) {
            int of = sale;
            Expect.refused("a 21st of sale " + sale, IllegalStateException.class, () -> Scene.full(20),
                    x -> x.comes(of, 0, true));
        }
        Expect.absent("a 21st", 0, 19, () -> Scene.full(20), (x, sale) -> x.comes(sale, 0, true));
    }

    private static void ofEachSaleOne() {
        ReturnRows x = Scene.withSales(0, 2);
        x.comes(1, 0, true);
        Expect.refuses("another of it", IllegalStateException.class, () -> x.comes(1, 0, true));
        Expect.same("one of the other", x.comes(0, 0, true), 2);
        Expect.refuses("another of that", IllegalStateException.class, () -> x.comes(0, 1, false));
    }

    private static void reasons() {
        Expect.range("reason, announced", 0, 7, () -> Scene.withSales(0, 1), (x, reason) -> x.comes(0, reason, true));
        Expect.range("reason, by itself", 0, 7, () -> Scene.withSales(0, 1), (x, reason) -> x.comes(0, reason, false));
    }

    private static void states() {
        ReturnRows x = Scene.withSales(0, 3);
        x.comes(0, 0, true);
        Expect.same("ANNOUNCED", x.told(1, 0), 0);
        x.comes(1, 0, false);
        Expect.same("WAITING", x.told(2, 0), 1);
        x.arrive(1, -1);
        Expect.same("HERE", x.told(1, 0), 2);
        x.grade(1, 3);
        Expect.same("GRADED", x.told(1, 0), 3);
        x.repair(1, 1);
        Expect.same("IN REPAIR", x.told(1, 0), 4);
        x.step(1, false);
        x.scrap(1, 1);
        Expect.same("SCRAPPED", x.told(1, 0), 5);
        x.arrive(2, 0);
        x.grade(2, 2);
        x.back(2);
        Expect.same("BACK", x.told(2, 0), 6);
    }

    private static void quarantined() {
        ReturnRows x = Scene.inState(Scene.HERE);
        Expect.same("at first", x.told(1, 7), 0);
        x.quarantine(1, true);
        Expect.same("quarantined", x.told(1, 7), 1);
    }

    private static void wrong() {
        ReturnRows x = Scene.inState(Scene.HERE);
        Expect.same("at first", x.told(1, 8), 0);
        x.serial(1, 0);
        Expect.same("its own serial", x.told(1, 8), 0);
        x.serial(1, 1);
        Expect.same("another sale's", x.told(1, 8), 1);
    }

    private static void grades() {
        Expect.range("grade when HERE", 0, 4, () -> Scene.inState(Scene.HERE), (x, grade) -> x.grade(1, grade));
        Expect.range("grade anew", 0, 4, () -> Scene.inState(Scene.GRADED), (x, grade) -> x.grade(1, grade));
        ReturnRows x = Scene.inState(Scene.GRADED, 4);
        x.grade(1, 0);
        x.grade(1, 1);
        Expect.same("the best of 4, 0 and 1", x.told(1, 5), 0);
    }

    private static void noGradeAtFirst() {
        for (int state = Scene.ANNOUNCED; state <= Scene.HERE; state++) {
            for (int what = 3; what <= 5; what++) {
                Expect.same("told(1, " + what + ") in state " + state, Scene.inState(state).told(1, what), -1);
            }
        }
    }

    private static void checks() {
        Expect.range("a good check", 0, 4, () -> Scene.inState(Scene.HERE), (x, what) -> x.check(1, what, true));
        Expect.range("a bad check", 0, 4, () -> Scene.inState(Scene.HERE), (x, what) -> x.check(1, what, false));
        // A shift by these would come round to a check that there is.
        for (int what : new int[] {31, 32, 33, 36, -32, -28}) {
            Expect.refused("check " + what, IllegalArgumentException.class, () -> Scene.inState(Scene.HERE),
                    x -> x.check(1, what, false));
        }
    }

    private static void theLatestCheckCounts() {
        for (int what = 0; what <= 4; what++) {
            ReturnRows x = Scene.inState(Scene.HERE);
            Expect.same("bad", x.check(1, what, false), 1);
            Expect.same("bad again", x.check(1, what, false), 1);
            Expect.same("good", x.check(1, what, true), 0);
            Expect.same("bad once more", x.check(1, what, false), 1);
            Expect.same("good once more", x.check(1, what, true), 0);
            Expect.same("grade 0 then", x.grade(1, 0), -1);
        }
    }

    private static void badChecks() {
        for (int what = 0; what <= 4; what++) {
            int bad = what;
            Expect.refused("grade 2", IllegalStateException.class, () -> Scene.withBadCheck(bad), x -> x.grade(1, 2));
            Expect.taken("grade 3", () -> Scene.withBadCheck(bad), x -> x.grade(1, 3));
        }
    }

    private static void repairsWithBadChecks() {
        ReturnRows x = Scene.withBadCheck(1);
        x.grade(1, 3);
        for (int grade = 2; grade >= 0; grade--) {
            x.repair(1, 1);
            x.step(1, true);
            Expect.same("repaired", x.told(1, 3), grade);
        }
        Expect.same("the check is bad still", x.told(1, 6), 2);
        Expect.refuses("grade 2", IllegalStateException.class, () -> x.grade(1, 2));
        Expect.same("back with it", x.back(1), 1);
    }

    private static void classes() {
        for (int grade = 0; grade <= 2; grade++) {
            ReturnRows x = Scene.inState(Scene.GRADED, grade);
            Expect.same("back with grade " + grade, x.back(1), 1);
            for (int of = 0; of <= 2; of++) {
                Expect.same("BACK of class " + of, x.count(4 + of), of == grade ? 1 : 0);
            }
        }
        Expect.refused("back with grade 3", IllegalStateException.class, () -> Scene.inState(Scene.GRADED, 3),
                x -> x.back(1));
        ReturnRows mended = Scene.inState(Scene.GRADED, 2);
        mended.repair(1, 1);
        mended.step(1, true);
        mended.back(1);
        Expect.same("the class is that of the last grade", mended.count(5), 1);
    }
}
