/** Objects in states that several tests start from. */
final class Scene {
    static final int ANNOUNCED = 0;
    static final int WAITING = 1;
    static final int HERE = 2;
    static final int GRADED = 3;
    static final int IN_REPAIR = 4;
    static final int SCRAPPED = 5;
    static final int BACK = 6;
    static final int[] STATES = {ANNOUNCED, WAITING, HERE, GRADED, IN_REPAIR, SCRAPPED, BACK};

    /** The certificate of the return that inState makes SCRAPPED. */
    static final int USED_CERTIFICATE = 900;

    private Scene() {
    }

    /** Sales 0 and 1 to customer 0 for 1000 each, and return 1 of sale 0, in a state. */
    static ReturnRows inState(int state) {
        return inState(state, state == BACK ? 1 : 3);
    }

    static ReturnRows inState(int state, int grade) {
        ReturnRows x = withSales(0, 2);
        x.comes(0, 0, state != WAITING);
        if (state >= HERE) {
            x.arrive(1, -1);
        }
        if (state >= GRADED) {
            x.grade(1, grade);
        }
        if (state == IN_REPAIR) {
            x.repair(1, 2);
        } else if (state == SCRAPPED) {
            x.scrap(1, USED_CERTIFICATE);
        } else if (state == BACK) {
            x.back(1);
        }
        return x;
    }

    static ReturnRows quarantined(int state, int grade) {
        ReturnRows x = inState(state, grade);
        x.quarantine(1, true);
        return x;
    }

    /** HERE, the serial read being that of sale 1. */
    static ReturnRows wrong() {
        ReturnRows x = inState(HERE);
        x.serial(1, 1);
        return x;
    }

    static ReturnRows wrong(int grade) {
        ReturnRows x = wrong();
        x.grade(1, grade);
        return x;
    }

    /** HERE, with one bad check. */
    static ReturnRows withBadCheck(int check) {
        ReturnRows x = inState(HERE);
        x.check(1, check, false);
        return x;
    }

    /** One sale of a price on day 0, and its return with a grade. */
    static ReturnRows graded(int price, int grade) {
        ReturnRows x = new ReturnRows();
        x.sale(0, price, 500);
        addGraded(x, 0, 0, grade);
        return x;
    }

    /** Brings the return of a sale up to its grade: its number. */
    static int addGraded(ReturnRows x, int sale, int reason, int grade) {
        int number = addHere(x, sale, reason);
        x.grade(number, grade);
        return number;
    }

    static int addHere(ReturnRows x, int sale, int reason) {
        int number = x.comes(sale, reason, true);
        x.arrive(number, -1);
        return number;
    }

    static ReturnRows withSales(int customer, int sales) {
        ReturnRows x = new ReturnRows();
        for (int i = 0; i < sales; i++) {
            x.sale(customer, 1000, 500);
        }
        return x;
    }

    /** All 20 sales, and so many of their returns. */
    static ReturnRows full(int returns) {
        ReturnRows x = withSales(0, 20);
        for (int sale = 0; sale < returns; sale++) {
            x.comes(sale, sale % 8, true);
        }
        return x;
    }

    /** All that an object tells, in one text. */
    static String everything(ReturnRows x) {
        StringBuilder text = new StringBuilder();
        for (int what = 0; what <= 7; what++) {
            text.append(x.count(what)).append(' ');
        }
        for (int reason = 0; reason <= 7; reason++) {
            for (int what = 0; what <= 2; what++) {
                text.append(x.reason(reason, what)).append(' ');
            }
        }
        for (int customer = 0; customer <= 5; customer++) {
            for (int what = 0; what <= 3; what++) {
                text.append(x.customer(customer, what)).append(' ');
            }
        }
        for (int number = 1; number <= x.count(1); number++) {
            text.append('\n').append(everythingOf(x, number));
        }
        return text.toString();
    }

    /** All that is told of one return, and what is due for it. */
    static String everythingOf(ReturnRows x, int number) {
        StringBuilder text = new StringBuilder();
        for (int what = 0; what <= 11; what++) {
            text.append(x.told(number, what)).append(' ');
        }
        return text.append(x.due(number)).toString();
    }

    /** All that an object tells, now and behind some more calls that show what it does not tell at once. */
    static String everythingAndLater(ReturnRows x) {
        StringBuilder text = new StringBuilder(everything(x));
        int shown = Math.min(2, x.count(1));
        for (int number = 1; number <= shown; number++) {
            text.append('\n').append(laterOf(x, number));
        }
        text.append('\n').append(Expect.thrownBy(() -> x.sale(0, 1, 0)));
        for (int sale = 0; sale <= 2; sale++) {
            int of = sale;
            text.append(' ').append(Expect.thrownBy(() -> x.comes(of, 0, true)));
        }
        return text.append(' ').append(x.count(1)).toString();
    }

    /** Brings a return on as far as it goes: pieces that are missing and used certificates show only so. */
    private static String laterOf(ReturnRows x, int number) {
        StringBuilder text = new StringBuilder();
        text.append(Expect.thrownBy(() -> x.arrive(number, -1))).append(' ');
        text.append(Expect.thrownBy(() -> x.arrive(number, 0))).append(' ');
        text.append(Expect.thrownBy(() -> x.quarantine(number, false))).append(' ');
        text.append(Expect.thrownBy(() -> x.step(number, false))).append(' ');
        text.append(Expect.thrownBy(() -> x.grade(number, 3))).append(' ');
        text.append(x.due(number)).append(' ');
        text.append(Expect.thrownBy(() -> x.scrap(number, 1))).append(' ');
        return text.append(everythingOf(x, number)).toString();
    }
}
