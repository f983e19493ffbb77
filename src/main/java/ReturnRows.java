import java.util.NoSuchElementException;

/** The returns of one warehouse, from the sale to the refund, the scrap or the shelf. */
public final class ReturnRows {
    private static final int LAST_DAY = 1000;
    private static final int LAST_CUSTOMER = 5;
    private static final int LAST_REASON = 7;
    private static final int LAST_PERSON = 9;
    private static final int LAST_CHECK = 4;
    private static final int MOST_MONEY = 100000;
    private static final int MOST_STEPS = 5;
    private static final int MOST_MISSING = 10;
    private static final int LAST_CERTIFICATE = 1000;
    private static final int MOST_SALES = 20;
    private static final int MOST_RETURNS = 20;

    private static final int ANNOUNCED = 0;
    private static final int WAITING = 1;
    private static final int HERE = 2;
    private static final int GRADED = 3;
    private static final int IN_REPAIR = 4;
    private static final int SCRAPPED = 5;
    private static final int BACK = 6;

    private static final int NONE = -1;
    private static final int BEST_GRADE = 0;
    private static final int WORST_GRADE = 4;
    private static final int BEST_GRADE_WITH_BAD_CHECK = 3;
    private static final int BEST_GRADE_FOR_SCRAP = 3;
    private static final int WORST_GRADE_FOR_RESALE = 2;
    private static final int[] PERCENTS = {100, 90, 70, 40, 0};

    private static final int DAYS_TO_COME = 30;
    private static final int DAYS_OF_MARK = 30;
    private static final int WRONG_ONES_OF_MARK = 2;
    private static final int MOST_RETURNS_WITHOUT_MARK = 3;

    // What is added up over returns, and the reason or buyer that leaves none of them out.
    private static final int ALL_ONES = 0;
    private static final int CENTS_PAID = 1;
    private static final int SCRAPPED_ONES = 2;
    private static final int WRONG_ONES = 3;
    private static final int QUARANTINED_ONES = 4;
    private static final int ANY = -1;

    private final Sale[] sales;
    private final Return[] returns;
    private int saleCount;
    private int returnCount;
    private int today;

    public ReturnRows() {
        sales = new Sale[MOST_SALES];
        returns = new Return[MOST_RETURNS];
    }

    public void day(int day) throws IllegalArgumentException {
        requireWithin(day, today, LAST_DAY);
        today = day;
    }

    public int sale(int customer, int price, int lastDay)
            throws IllegalArgumentException, UnsupportedOperationException {
        requireWithin(customer, 0, LAST_CUSTOMER);
        requireWithin(price, 1, MOST_MONEY);
        requireWithin(lastDay, 0, LAST_DAY);
        int number = saleCount;
        if (number >= sales.length) {
            throw new UnsupportedOperationException("no room for another sale");
        }
        sales[number] = new Sale(number, customer, price, lastDay, today);
        saleCount++;
        return number;
    }

    public int comes(int sale, int reason, boolean announced)
            throws NoSuchElementException, IllegalArgumentException, IllegalStateException,
            UnsupportedOperationException {
        Sale sold = saleAt(sale);
        requireWithin(reason, 0, LAST_REASON);
        if (sold.hasReturn) {
            throw new IllegalStateException("there is a return of this sale");
        }
        // As many returns as sales fit, so this can't be reached while both limits are the same.
        if (returnCount >= returns.length) {
            throw new UnsupportedOperationException("no room for another return");
        }
        sold.hasReturn = true;
        returns[returnCount] = new Return(sold, reason, announced ? ANNOUNCED : WAITING, today);
        returnCount++;
        return returnCount;
    }

    public void arrive(int number, int person)
            throws NoSuchElementException, IllegalArgumentException, IllegalStateException {
        Return row = returnAt(number);
        requireWithin(person, NONE, LAST_PERSON);
        if (row.state != ANNOUNCED && row.state != WAITING) {
            throw new IllegalStateException("the return is neither announced nor waiting");
        }
        boolean needsPerson = row.state == WAITING;
        if (needsPerson != (person != NONE)) {
            throw new IllegalStateException("a person lets in a waiting return, none an announced one");
        }
        row.person = person;
        row.state = HERE;
    }

    public int serial(int number, int sale) throws NoSuchElementException, IllegalStateException {
        Return row = returnAt(number);
        Sale read = saleAt(sale);
        requireHere(row);
        row.wrong = read.number != row.sold.number;
        return row.wrong ? -1 - read.number : 1;
    }

    public void quarantine(int number, boolean on) throws NoSuchElementException, IllegalStateException {
        Return row = returnAt(number);
        if (row.quarantined == on) {
            throw new IllegalStateException("the quarantine is so already");
        }
        if (on) {
            requireHereOrGraded(row);
        }
        row.quarantined = on;
    }

    public int check(int number, int what, boolean good)
            throws NoSuchElementException, IllegalArgumentException, IllegalStateException {
        Return row = returnAt(number);
        requireWithin(what, 0, LAST_CHECK);
        requireHere(row);
        int bit = 1 << what;
        row.badChecks = good ? row.badChecks & ~bit : row.badChecks | bit;
        return Integer.bitCount(row.badChecks);
    }

    public int grade(int number, int grade)
            throws NoSuchElementException, IllegalArgumentException, IllegalStateException {
        Return row = returnAt(number);
        requireWithin(grade, BEST_GRADE, WORST_GRADE);
        requireHereOrGraded(row);
        requireNoQuarantine(row);
        if (row.badChecks != 0 && grade < BEST_GRADE_WITH_BAD_CHECK) {
            throw new IllegalStateException("a bad check forbids so good a grade");
        }
        row.takeGrade(grade);
        row.state = GRADED;
        return row.gradeBefore;
    }

    public void repair(int number, int steps)
            throws NoSuchElementException, IllegalArgumentException, IllegalStateException {
        Return row = returnAt(number);
        requireWithin(steps, 1, MOST_STEPS);
        requireGraded(row);
        requireNoQuarantine(row);
        if (row.grade == BEST_GRADE) {
            throw new IllegalStateException("the best grade needs no repair");
        }
        row.stepsLeft = steps;
        row.state = IN_REPAIR;
    }

    public int step(int number, boolean works) throws NoSuchElementException, IllegalStateException {
        Return row = returnAt(number);
        if (row.state != IN_REPAIR) {
            throw new IllegalStateException("the return is not in repair");
        }
        row.stepsLeft = works ? row.stepsLeft - 1 : 0;
        if (row.stepsLeft == 0) {
            row.state = GRADED;
            if (works) {
                row.takeGrade(row.grade - 1);
            }
        }
        return row.stepsLeft;
    }

    public boolean scrap(int number, int certificate)
            throws NoSuchElementException, IllegalArgumentException, IllegalStateException {
        Return row = returnAt(number);
        requireWithin(certificate, 1, LAST_CERTIFICATE);
        requireGraded(row);
        if (row.grade < BEST_GRADE_FOR_SCRAP) {
            throw new IllegalStateException("the grade is too good for scrap");
        }
        if (isCertificateUsed(certificate)) {
            return false;
        }
        row.certificate = certificate;
        row.state = SCRAPPED;
        return true;
    }

    public int back(int number) throws NoSuchElementException, IllegalStateException {
        Return row = returnAt(number);
        requireGraded(row);
        requireNoQuarantine(row);
        if (row.wrong) {
            throw new IllegalStateException("the serial is that of another sale");
        }
        if (row.grade > WORST_GRADE_FOR_RESALE) {
            throw new IllegalStateException("the grade is too bad for resale");
        }
        if (today > row.sold.lastDay) {
            throw new IllegalStateException("the last day of the lot is over");
        }
        row.state = BACK;
        return backOfClass(row.grade);
    }

    public void missing(int number, int n)
            throws NoSuchElementException, IllegalArgumentException, IllegalStateException {
        Return row = returnAt(number);
        requireWithin(n, 0, MOST_MISSING);
        requireHereOrGraded(row);
        row.missingPieces = n;
    }

    public int refund(int number, int cents)
            throws NoSuchElementException, IllegalArgumentException, IllegalStateException {
        Return row = returnAt(number);
        requireWithin(cents, 1, MOST_MONEY);
        int left = row.amountDue() - row.paid;
        if (cents > left) {
            throw new IllegalStateException("this is more than is left");
        }
        row.paid += cents;
        return left - cents;
    }

    public int due(int number) throws NoSuchElementException {
        return returnAt(number).amountDue();
    }

    public int reason(int reason, int what) throws IllegalArgumentException {
        requireWithin(reason, 0, LAST_REASON);
        switch (what) {
            case 0: return sum(ALL_ONES, reason, ANY);
            case 1: return sum(CENTS_PAID, reason, ANY);
            case 2: return sum(SCRAPPED_ONES, reason, ANY);
            default: throw new IllegalArgumentException("a reason has no such number");
        }
    }

    public int customer(int customer, int what) throws IllegalArgumentException {
        requireWithin(customer, 0, LAST_CUSTOMER);
        switch (what) {
            case 0: return salesTo(customer);
            case 1: return sum(ALL_ONES, ANY, customer);
            case 2: return sum(WRONG_ONES, ANY, customer);
            case 3: return isMarked(customer) ? 1 : 0;
            default: throw new IllegalArgumentException("a customer has no such number");
        }
    }

    public int told(int number, int what) throws NoSuchElementException, IllegalArgumentException {
        Return row = returnAt(number);
        switch (what) {
            case 0: return row.state;
            case 1: return row.sold.number;
            case 2: return row.cause;
            case 3: return row.grade;
            case 4: return row.gradeBefore;
            case 5: return row.bestGrade;
            case 6: return row.badChecks;
            case 7: return row.quarantined ? 1 : 0;
            case 8: return row.wrong ? 1 : 0;
            case 9: return row.stepsLeft;
            case 10: return row.paid;
            case 11: return row.person;
            default: throw new IllegalArgumentException("a return has no such number");
        }
    }

    public int count(int what) {
        switch (what) {
            case 0: return saleCount;
            case 1: return returnCount;
            case 2: return today;
            case 3: return sum(QUARANTINED_ONES, ANY, ANY);
            case 4: return backOfClass(0);
            case 5: return backOfClass(1);
            case 6: return backOfClass(2);
            case 7: return sum(CENTS_PAID, ANY, ANY);
            default: return -1;
        }
    }

    private Sale saleAt(int number) {
        if (number < 0 || number >= sales.length) {
            throw new NoSuchElementException("there is no such sale");
        }
        Sale found = sales[number];
        if (found == null) {
            throw new NoSuchElementException("there is no such sale");
        }
        return found;
    }

    private Return returnAt(int number) {
        if (number < 1 || number > returns.length) {
            throw new NoSuchElementException("there is no such return");
        }
        Return found = returns[number - 1];
        if (found == null) {
            throw new NoSuchElementException("there is no such return");
        }
        return found;
    }

    private static void requireWithin(int value, int least, int most) {
        if (value < least || value > most) {
            throw new IllegalArgumentException("a number is outside its range");
        }
    }

    private static void requireHere(Return row) {
        if (row.state != HERE) {
            throw new IllegalStateException("the return is not here");
        }
    }

    private static void requireGraded(Return row) {
        if (row.state != GRADED) {
            throw new IllegalStateException("the return is not graded");
        }
    }

    private static void requireHereOrGraded(Return row) {
        if (row.state != HERE && row.state != GRADED) {
            throw new IllegalStateException("the return is neither here nor graded");
        }
    }

    private static void requireNoQuarantine(Return row) {
        if (row.quarantined) {
            throw new IllegalStateException("the return is quarantined");
        }
    }

    private boolean isCertificateUsed(int certificate) {
        for (Return row : returns) {
            if (row != null && row.certificate == certificate) {
                return true;
            }
        }
        return false;
    }

    private int backOfClass(int resaleClass) {
        int found = 0;
        for (Return row : returns) {
            if (row != null && row.state == BACK && row.grade == resaleClass) {
                found++;
            }
        }
        return found;
    }

    private int salesTo(int buyer) {
        int found = 0;
        for (Sale sold : sales) {
            if (sold != null && sold.buyer == buyer) {
                found++;
            }
        }
        return found;
    }

    private int recentReturnsOf(int buyer) {
        int found = 0;
        for (Return row : returns) {
            if (row != null && row.sold.buyer == buyer && today - row.cameDay <= DAYS_OF_MARK) {
                found++;
            }
        }
        return found;
    }

    private boolean isMarked(int buyer) {
        return sum(WRONG_ONES, ANY, buyer) >= WRONG_ONES_OF_MARK
                || recentReturnsOf(buyer) > MOST_RETURNS_WITHOUT_MARK;
    }

    /** Adds up a measure over the returns of one reason and one buyer; either may be ANY. */
    private int sum(int measure, int cause, int buyer) {
        int total = 0;
        for (Return row : returns) {
            if (row != null && row.isOf(cause, buyer)) {
                total += row.measured(measure);
            }
        }
        return total;
    }

    private static final class Sale {
        final int number;
        final int buyer;
        final int price;
        final int lastDay;
        final int soldDay;
        boolean hasReturn;

        Sale(int number, int buyer, int price, int lastDay, int soldDay) {
            this.number = number;
            this.buyer = buyer;
            this.price = price;
            this.lastDay = lastDay;
            this.soldDay = soldDay;
        }
    }

    private static final class Return {
        final Sale sold;
        final int cause;
        final int cameDay;
        int state;
        int person;
        boolean quarantined;
        boolean wrong;
        int badChecks;
        int grade;
        int gradeBefore;
        int bestGrade;
        int stepsLeft;
        int missingPieces;
        int paid;
        int certificate;

        Return(Sale sold, int cause, int state, int cameDay) {
            this.sold = sold;
            this.cause = cause;
            this.state = state;
            this.cameDay = cameDay;
            person = NONE;
            grade = NONE;
            gradeBefore = NONE;
            bestGrade = NONE;
        }

        void takeGrade(int newGrade) {
            gradeBefore = grade;
            grade = newGrade;
            if (bestGrade == NONE || newGrade < bestGrade) {
                bestGrade = newGrade;
            }
        }

        boolean isOf(int someCause, int someBuyer) {
            return (someCause == ANY || someCause == cause) && (someBuyer == ANY || someBuyer == sold.buyer);
        }

        int measured(int measure) {
            switch (measure) {
                case ALL_ONES: return 1;
                case CENTS_PAID: return paid;
                case SCRAPPED_ONES: return state == SCRAPPED ? 1 : 0;
                case WRONG_ONES: return wrong ? 1 : 0;
                case QUARANTINED_ONES: return quarantined ? 1 : 0;
                default: return 0;
            }
        }

        int amountDue() {
            if (grade < 0 || grade >= PERCENTS.length) {
                return 0;
            }
            if (wrong || cameDay - sold.soldDay > DAYS_TO_COME) {
                return 0;
            }
            int worth = sold.price * PERCENTS[grade] / 100;
            int lost = sold.price / 10 * missingPieces;
            return Math.max(0, worth - lost);
        }
    }
}
