/** Promise 2: day. */
public final class DayTest {
    private static final String PART = "Promise 2";

    public static void main(String[] args) {
        Expect.sentence(PART, "It is this day.", DayTest::itIsThisDay);
        Expect.sentence(PART, "IllegalArgumentException", DayTest::outsideTheRange);
        Expect.sentence(PART, "also before today.", DayTest::beforeToday);
        Expect.finish(PART);
    }

    private static void itIsThisDay() {
        ReturnRows x = new ReturnRows();
        for (int day : new int[] {0, 1, 1, 2, 500, 999, 1000, 1000}) {
            x.day(day);
            Expect.same("today behind day(" + day + ")", x.count(2), day);
        }
        ReturnRows far = new ReturnRows();
        far.day(1000);
        Expect.same("from the first day to the last at once", far.count(2), 1000);
    }

    private static void outsideTheRange() {
        Expect.range("day", 0, 1000, ReturnRows::new, ReturnRows::day);
        Expect.outside("day on the last day", 0, 1000, () -> onDay(1000), ReturnRows::day);
    }

    private static void beforeToday() {
        for (int today : new int[] {1, 2, 500, 999, 1000}) {
            Expect.refused("the day before " + today, IllegalArgumentException.class, () -> onDay(today),
                    x -> x.day(today - 1));
            Expect.refused("day 0 on day " + today, IllegalArgumentException.class, () -> onDay(today),
                    x -> x.day(0));
            Expect.taken("today again, " + today, () -> onDay(today), x -> x.day(today));
        }
        Expect.taken("the day behind", () -> onDay(999), x -> x.day(1000));
    }

    private static ReturnRows onDay(int day) {
        ReturnRows x = new ReturnRows();
        x.day(day);
        return x;
    }
}
