import java.util.ArrayList;
import java.util.List;

/**
 * The document once more in another form, to compare the class with: it keeps no state but the
 * accepted calls, those of each return in a list, and reads every answer out of these lists.
 */
final class Model {
    static final String ABSENT = "NoSuchElementException";
    static final String ARGUMENT = "IllegalArgumentException";
    static final String STATE = "IllegalStateException";
    static final String ROOM = "UnsupportedOperationException";
    private static final int MOST = 20;
    private static final int NONE = -1;
    private static final int[] PERCENTS = {100, 90, 70, 40, 0};

    private static final class Event {
        final Call call;
        final int day;

        Event(Call call, int day) {
            this.call = call;
            this.day = day;
        }
    }

    private final List<Event> sales = new ArrayList<>();
    private final List<List<Event>> returns = new ArrayList<>();
    private int today = 0;

    int today() {
        return today;
    }

    int sales() {
        return sales.size();
    }

    int returns() {
        return returns.size();
    }

    int saleOf(int number) {
        return isReturn(number) ? saleOf(of(number)) : NONE;
    }

    /** The first sale that has no return, or one that there is not if each has. */
    int saleWithoutReturn() {
        int sale = 0;
        while (hasReturn(sale)) {
            sale++;
        }
        return sale;
    }

    /** The number that is due, or the name of the exception. */
    String answer(Call call) {
        if (isAbsent(call)) {
            return ABSENT;
        }
        if (isOutside(call)) {
            return ARGUMENT;
        }
        if (isNotAsItIsNow(call)) {
            return STATE;
        }
        if (call.kind == Call.SALE && sales.size() == MOST || call.kind == Call.COMES && returns.size() == MOST) {
            return ROOM;
        }
        return String.valueOf(call.kind < Call.DUE ? told(call) : asked(call));
    }

    private boolean isSale(int number) {
        return number >= 0 && number < sales.size();
    }

    private boolean hasReturn(int sale) {
        return returns.stream().anyMatch(it -> saleOf(it) == sale);
    }

    private boolean isReturn(int number) {
        return number >= 1 && number <= returns.size();
    }

    private List<Event> of(int number) {
        return returns.get(number - 1);
    }

    private boolean isAbsent(Call call) {
        switch (call.kind) {
            case Call.DAY: case Call.SALE: case Call.REASON: case Call.CUSTOMER: case Call.COUNT: return false;
            case Call.COMES: return !isSale(call.a);
            case Call.SERIAL: return !isReturn(call.a) || !isSale(call.b);
            default: return !isReturn(call.a);
        }
    }

    private static boolean out(int value, int least, int most) {
        return value < least || value > most;
    }

    private boolean isOutside(Call call) {
        switch (call.kind) {
            case Call.DAY: return out(call.a, 0, 1000) || call.a < today;
            case Call.SALE: return out(call.a, 0, 5) || out(call.b, 1, 100000) || out(call.c, 0, 1000);
            case Call.COMES: return out(call.b, 0, 7);
            case Call.ARRIVE: return out(call.b, -1, 9);
            case Call.CHECK: case Call.GRADE: return out(call.b, 0, 4);
            case Call.REPAIR: return out(call.b, 1, 5);
            case Call.SCRAP: return out(call.b, 1, 1000);
            case Call.MISSING: return out(call.b, 0, 10);
            case Call.REFUND: return out(call.b, 1, 100000);
            case Call.REASON: return out(call.a, 0, 7) || out(call.b, 0, 2);
            case Call.CUSTOMER: return out(call.a, 0, 5) || out(call.b, 0, 3);
            case Call.TOLD: return out(call.b, 0, 11);
            default: return false;
        }
    }

    private boolean isNotAsItIsNow(Call call) {
        if (call.kind == Call.COMES) {
            return hasReturn(call.a);
        }
        if (call.kind < Call.ARRIVE || call.kind > Call.REFUND) {
            return false;
        }
        List<Event> it = of(call.a);
        int state = state(it);
        boolean hereOrGraded = state == Scene.HERE || state == Scene.GRADED;
        switch (call.kind) {
            case Call.ARRIVE: return call.b == NONE ? state != Scene.ANNOUNCED : state != Scene.WAITING;
            case Call.SERIAL: case Call.CHECK: return state != Scene.HERE;
            case Call.QUARANTINE: return isQuarantined(it) == call.flag || call.flag && !hereOrGraded;
            case Call.GRADE: return !hereOrGraded || isQuarantined(it) || badChecks(it) > 0 && call.b < 3;
            case Call.REPAIR: return state != Scene.GRADED || isQuarantined(it) || grade(it) == 0;
            case Call.STEP: return state != Scene.IN_REPAIR;
            case Call.SCRAP: return state != Scene.GRADED || grade(it) < 3;
            case Call.BACK: return state != Scene.GRADED || isQuarantined(it) || isWrong(it) || grade(it) > 2
                    || today > sales.get(saleOf(it)).call.c;
            case Call.MISSING: return !hereOrGraded;
            default: return call.b > due(it) - paid(it);
        }
    }

    /** An accepted call that tells something new: noted, and what it answers. */
    private int told(Call call) {
        if (call.kind == Call.DAY) {
            today = call.a;
            return Call.DONE;
        }
        Event event = new Event(call, today);
        if (call.kind == Call.SALE) {
            sales.add(event);
            return sales.size() - 1;
        }
        if (call.kind == Call.COMES) {
            returns.add(new ArrayList<>(List.of(event)));
            return returns.size();
        }
        List<Event> it = of(call.a);
        if (call.kind == Call.SCRAP && isUsed(call.b)) {
            return 0;
        }
        it.add(event);
        return answerBehind(call, it);
    }

    private int answerBehind(Call call, List<Event> it) {
        switch (call.kind) {
            case Call.SERIAL: return isWrong(it) ? -1 - call.b : 1;
            case Call.CHECK: return Integer.bitCount(badChecks(it));
            case Call.GRADE: return gradeBefore(it);
            case Call.STEP: return stepsLeft(it);
            case Call.SCRAP: return 1;
            case Call.BACK: return backOfClass(grade(it));
            case Call.REFUND: return due(it) - paid(it);
            default: return Call.DONE;
        }
    }

    private boolean isUsed(int certificate) {
        return returns.stream().flatMap(List::stream)
                .anyMatch(event -> event.call.kind == Call.SCRAP && event.call.b == certificate);
    }

    private static Event last(List<Event> it, int kind) {
        for (int i = it.size() - 1; i >= 0; i--) {
            if (it.get(i).call.kind == kind) {
                return it.get(i);
            }
        }
        return null;
    }

    private static int saleOf(List<Event> it) {
        return it.get(0).call.a;
    }

    private static int state(List<Event> it) {
        for (int i = it.size() - 1; i >= 1; i--) {
            switch (it.get(i).call.kind) {
                case Call.ARRIVE: return Scene.HERE;
                case Call.GRADE: return Scene.GRADED;
                case Call.REPAIR: return Scene.IN_REPAIR;
                case Call.STEP: return stepsLeft(it) > 0 ? Scene.IN_REPAIR : Scene.GRADED;
                case Call.SCRAP: return Scene.SCRAPPED;
                case Call.BACK: return Scene.BACK;
                default: break;
            }
        }
        return it.get(0).call.flag ? Scene.ANNOUNCED : Scene.WAITING;
    }

    private static int stepsLeft(List<Event> it) {
        Event repair = last(it, Call.REPAIR);
        if (repair == null) {
            return 0;
        }
        int left = repair.call.b;
        for (Event event : it.subList(it.indexOf(repair), it.size())) {
            if (event.call.kind == Call.STEP) {
                left = event.call.flag ? left - 1 : 0;
            }
        }
        return left;
    }

    /** Every grade that it had, the latest last. */
    private static List<Integer> grades(List<Event> it) {
        List<Integer> grades = new ArrayList<>();
        for (int i = 0; i < it.size(); i++) {
            Call call = it.get(i).call;
            if (call.kind == Call.GRADE) {
                grades.add(call.b);
            } else if (call.kind == Call.STEP && call.flag && stepsLeft(it.subList(0, i + 1)) == 0) {
                grades.add(grades.get(grades.size() - 1) - 1);
            }
        }
        return grades;
    }

    private static int fromEnd(List<Integer> grades, int place) {
        return grades.size() < place ? NONE : grades.get(grades.size() - place);
    }

    private static int grade(List<Event> it) {
        return fromEnd(grades(it), 1);
    }

    private static int gradeBefore(List<Event> it) {
        return fromEnd(grades(it), 2);
    }

    private static int bestGrade(List<Event> it) {
        return grades(it).stream().mapToInt(Integer::intValue).min().orElse(NONE);
    }

    private static boolean isQuarantined(List<Event> it) {
        Event latest = last(it, Call.QUARANTINE);
        return latest != null && latest.call.flag;
    }

    private static boolean isWrong(List<Event> it) {
        Event latest = last(it, Call.SERIAL);
        return latest != null && latest.call.b != saleOf(it);
    }

    private static int badChecks(List<Event> it) {
        boolean[] bad = new boolean[5];
        for (Event event : it) {
            if (event.call.kind == Call.CHECK) {
                bad[event.call.b] = !event.call.flag;
            }
        }
        int bits = 0;
        for (int what = 4; what >= 0; what--) {
            bits = 2 * bits + (bad[what] ? 1 : 0);
        }
        return bits;
    }

    private static int paid(List<Event> it) {
        return it.stream().filter(event -> event.call.kind == Call.REFUND).mapToInt(event -> event.call.b).sum();
    }

    private int due(List<Event> it) {
        Event sale = sales.get(saleOf(it));
        boolean late = it.get(0).day > sale.day + 30;
        if (grade(it) == NONE || isWrong(it) || late) {
            return 0;
        }
        int price = sale.call.b;
        Event missing = last(it, Call.MISSING);
        int pieces = missing == null ? 0 : missing.call.b;
        int due = price * PERCENTS[grade(it)] / 100;
        for (int piece = 0; piece < pieces; piece++) {
            due -= price / 10;
        }
        return due < 0 ? 0 : due;
    }

    private int backOfClass(int resaleClass) {
        return (int) returns.stream().filter(it -> state(it) == Scene.BACK && grade(it) == resaleClass).count();
    }

    private int asked(Call call) {
        switch (call.kind) {
            case Call.DUE: return due(of(call.a));
            case Call.REASON: return ofReason(call.a, call.b);
            case Call.CUSTOMER: return ofCustomer(call.a, call.b);
            case Call.TOLD: return ofReturn(of(call.a), call.b);
            default: return inAll(call.a);
        }
    }

    private int ofReason(int reason, int what) {
        int total = 0;
        for (List<Event> it : returns) {
            if (it.get(0).call.b == reason) {
                total += what == 0 ? 1 : what == 1 ? paid(it) : last(it, Call.SCRAP) != null ? 1 : 0;
            }
        }
        return total;
    }

    private int ofCustomer(int customer, int what) {
        int back = 0;
        int wrong = 0;
        int late = 0;
        for (List<Event> it : returns) {
            if (sales.get(saleOf(it)).call.a == customer) {
                back++;
                wrong += isWrong(it) ? 1 : 0;
                late += it.get(0).day >= today - 30 ? 1 : 0;
            }
        }
        switch (what) {
            case 0: return (int) sales.stream().filter(sale -> sale.call.a == customer).count();
            case 1: return back;
            case 2: return wrong;
            default: return wrong >= 2 || late > 3 ? 1 : 0;
        }
    }

    private int ofReturn(List<Event> it, int what) {
        switch (what) {
            case 0: return state(it);
            case 1: return saleOf(it);
            case 2: return it.get(0).call.b;
            case 3: return grade(it);
            case 4: return gradeBefore(it);
            case 5: return bestGrade(it);
            case 6: return badChecks(it);
            case 7: return isQuarantined(it) ? 1 : 0;
            case 8: return isWrong(it) ? 1 : 0;
            case 9: return stepsLeft(it);
            case 10: return paid(it);
            default: return last(it, Call.ARRIVE) == null ? NONE : last(it, Call.ARRIVE).call.b;
        }
    }

    private int inAll(int what) {
        switch (what) {
            case 0: return sales.size();
            case 1: return returns.size();
            case 2: return today;
            case 3: return (int) returns.stream().filter(Model::isQuarantined).count();
            case 4: case 5: case 6: return backOfClass(what - 4);
            case 7: return returns.stream().mapToInt(Model::paid).sum();
            default: return -1;
        }
    }
}
