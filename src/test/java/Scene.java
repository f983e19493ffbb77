/** Objects in states that several tests start from. */
final class Scene {
    static final int ANNOUNCED = 0;
    static final int WAITING = 1;
    static final int HERE = 2;
    static final int GRADED = 3;
    static final int IN_REPAIR = 4;
    static final int SCRAPPED = 5;
    static final int BACK = 6;
    static final int[] STATES = {ANNOUNCED, WAITING, HERE, GRADED, IN_REPAIR, SCRAPPED, BACK};

    private Scene() {
    }

    /** Sales 0 and 1 to customer 0 for 1000 each, and return 1 of sale 0, in a state. */
    static ReturnRows inState(int state) {
        ReturnRows x = new ReturnRows();
        x.sale(0, 1000, 500);
        x.sale(0, 1000, 500);
        x.comes(0, 0, state != WAITING);
        if (state >= HERE) {
            x.arrive(1, -1);
        }
        if (state >= GRADED) {
            x.grade(1, state == BACK ? 1 : 3);
        }
        if (state == IN_REPAIR) {
            x.repair(1, 2);
        } else if (state == SCRAPPED) {
            x.scrap(1, 1);
        } else if (state == BACK) {
            x.back(1);
        }
        return x;
    }

    /** One sale of a price on day 0, and its return with a grade. */
    static ReturnRows graded(int price, int grade) {
        ReturnRows x = new ReturnRows();
        x.sale(0, price, 500);
        addGraded(x, 0, 0, grade);
        return x;
    }

    /** Brings the return of a sale up to its grade: its number. */
    static int addGraded(ReturnRows x, int sale, int reason, int grade) {
        int number = x.comes(sale, reason, true);
        x.arrive(number, -1);
        x.grade(number, grade);
        return number;
    }

    static ReturnRows withSales(int customer, int sales) {
        ReturnRows x = new ReturnRows();
        for (int i = 0; i < sales; i++) {
            x.sale(customer, 1000, 500);
        }
        return x;
    }

    /** All that an object tells, in one text. */
    static String everything(ReturnRows x) {
        StringBuilder text = new StringBuilder();
        for (int what = 0; what <= 7; what++) {
            text.append(x.count(what)).append(' ');
        }
        for (int reason = 0; reason <= 7; reason++) {
            for (int what = 0; what <= 2; what++) {
                text.append(x.reason(reason, what)).append(' ');
            }
        }
        for (int customer = 0; customer <= 5; customer++) {
            for (int what = 0; what <= 3; what++) {
                text.append(x.customer(customer, what)).append(' ');
            }
        }
        for (int number = 1; number <= x.count(1); number++) {
            text.append('\n').append(everythingOf(x, number));
        }
        return text.toString();
    }

    /** All that is told of one return, and what is due for it. */
    static String everythingOf(ReturnRows x, int number) {
        StringBuilder text = new StringBuilder();
        for (int what = 0; what <= 11; what++) {
            text.append(x.told(number, what)).append(' ');
        }
        return text.append(x.due(number)).toString();
    }
}
