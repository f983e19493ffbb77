import java.util.Map;
import java.util.NoSuchElementException;
import java.util.TreeMap;
import java.util.function.Consumer;
import java.util.function.ObjIntConsumer;
import java.util.function.Supplier;

/** The REFUSALS of the document's Terms: what is refused, and with what if several reasons hold. */
public final class RefusalsTest {
    private static final String PART = "REFUSALS";
    private static final int OUTSIDE = -7;
    private static final Class<NoSuchElementException> ABSENT = NoSuchElementException.class;
    private static final Class<IllegalArgumentException> ARGUMENT = IllegalArgumentException.class;
    private static final Class<IllegalStateException> STATE = IllegalStateException.class;
    private static final Class<UnsupportedOperationException> ROOM = UnsupportedOperationException.class;

    public static void main(String[] args) {
        Expect.sentence(PART, "NoSuchElementException: a sale", RefusalsTest::noSuchSale);
        Expect.sentence(PART, "or return that there is not", RefusalsTest::noSuchReturn);
        Expect.sentence(PART, "IllegalArgumentException: another number outside its range", RefusalsTest::outside);
        Expect.sentence(PART, "IllegalStateException: not as it is now", RefusalsTest::notAsItIsNow);
        Expect.sentence(PART, "UnsupportedOperationException: no room.", RefusalsTest::noRoom);
        String first = "REFUSALS, the first that holds:";
        Expect.sentence(PART, first, RefusalsTest::absentBeforeArgument);
        Expect.sentence(PART, first, RefusalsTest::absentBeforeState);
        Expect.sentence(PART, first, RefusalsTest::absentBeforeRoom);
        Expect.sentence(PART, first, RefusalsTest::argumentBeforeState);
        Expect.sentence(PART, first, RefusalsTest::argumentBeforeRoom);
        Expect.sentence(PART, first, RefusalsTest::stateBeforeRoom);
        Expect.finish(PART);
    }

    /** Every call of a return, with fitting other numbers. */
    private static Map<String, ObjIntConsumer<ReturnRows>> callsOfReturns() {
        Map<String, ObjIntConsumer<ReturnRows>> calls = new TreeMap<>();
        calls.put("arrive", (x, number) -> x.arrive(number, -1));
        calls.put("serial", (x, number) -> x.serial(number, 0));
        calls.put("quarantine on", (x, number) -> x.quarantine(number, true));
        calls.put("quarantine off", (x, number) -> x.quarantine(number, false));
        calls.put("check", (x, number) -> x.check(number, 0, true));
        calls.put("grade", (x, number) -> x.grade(number, 0));
        calls.put("repair", (x, number) -> x.repair(number, 1));
        calls.put("step", (x, number) -> x.step(number, true));
        calls.put("scrap", (x, number) -> x.scrap(number, 1));
        calls.put("back", ReturnRows::back);
        calls.put("missing", (x, number) -> x.missing(number, 0));
        calls.put("refund", (x, number) -> x.refund(number, 1));
        calls.put("due", ReturnRows::due);
        calls.put("told", (x, number) -> x.told(number, 0));
        return calls;
    }

    /** Every call of a return that takes another number with a range, this one being outside it. */
    private static Map<String, ObjIntConsumer<ReturnRows>> callsWithNumbersOutside() {
        Map<String, ObjIntConsumer<ReturnRows>> calls = new TreeMap<>();
        calls.put("arrive", (x, number) -> x.arrive(number, OUTSIDE));
        calls.put("check", (x, number) -> x.check(number, OUTSIDE, true));
        calls.put("grade", (x, number) -> x.grade(number, OUTSIDE));
        calls.put("repair", (x, number) -> x.repair(number, OUTSIDE));
        calls.put("scrap", (x, number) -> x.scrap(number, OUTSIDE));
        calls.put("missing", (x, number) -> x.missing(number, OUTSIDE));
        calls.put("refund", (x, number) -> x.refund(number, OUTSIDE));
        calls.put("told", (x, number) -> x.told(number, OUTSIDE));
        return calls;
    }

    private static void noSuchSale() {
        Expect.absent("comes, nothing there", 0, -1, ReturnRows::new, (x, sale) -> x.comes(sale, 0, true));
        Expect.absent("comes, one sale", 0, 0, () -> Scene.withSales(0, 1), (x, sale) -> x.comes(sale, 0, true));
        Expect.absent("comes, 19 sales", 0, 18, () -> Scene.withSales(0, 19), (x, sale) -> x.comes(sale, 0, false));
        Expect.absent("comes, all sales", 0, 19, () -> Scene.full(0), (x, sale) -> x.comes(sale, 0, true));
        Expect.absent("serial, two sales", 0, 1, () -> Scene.inState(Scene.HERE), (x, sale) -> x.serial(1, sale));
        Expect.taken("comes of the first sale", () -> Scene.full(0), x -> x.comes(0, 0, true));
        Expect.taken("comes of the last sale", () -> Scene.full(0), x -> x.comes(19, 0, true));
    }

    private static void noSuchReturn() {
        callsOfReturns().forEach((name, call) -> {
            Expect.absent(name + ", nothing there", 1, 0, ReturnRows::new, call);
            Expect.absent(name + ", no return", 1, 0, () -> Scene.full(0), call);
            Expect.absent(name + ", one return", 1, 1, () -> Scene.inState(Scene.HERE), call);
            Expect.absent(name + ", 19 returns", 1, 19, () -> Scene.full(19), call);
            Expect.absent(name + ", all returns", 1, 20, () -> Scene.full(20), call);
        });
    }

    private static void outside() {
        callsWithNumbersOutside().forEach((name, call) -> {
            for (int state : Scene.STATES) {
                Expect.refused(name + " in state " + state, ARGUMENT, () -> Scene.inState(state),
                        x -> call.accept(x, 1));
            }
        });
        refusedOnNew("day", x -> x.day(OUTSIDE));
        refusedOnNew("sale, customer", x -> x.sale(OUTSIDE, 1, 0));
        refusedOnNew("sale, price", x -> x.sale(0, OUTSIDE, 0));
        refusedOnNew("sale, last day", x -> x.sale(0, 1, OUTSIDE));
        refusedOnNew("reason", x -> x.reason(OUTSIDE, 0));
        refusedOnNew("reason, what", x -> x.reason(0, OUTSIDE));
        refusedOnNew("customer", x -> x.customer(OUTSIDE, 0));
        refusedOnNew("customer, what", x -> x.customer(0, OUTSIDE));
        Expect.refused("comes", ARGUMENT, () -> Scene.withSales(0, 1), x -> x.comes(0, OUTSIDE, true));
    }

    private static void refusedOnNew(String call, Consumer<ReturnRows> body) {
        Expect.refused(call, ARGUMENT, ReturnRows::new, body);
    }

    private static void notAsItIsNow() {
        Supplier<ReturnRows> scrapped = () -> Scene.inState(Scene.SCRAPPED);
        callsOfReturns().forEach((name, call) -> {
            if (name.equals("refund") || name.equals("due") || name.equals("told")) {
                Expect.taken(name, scrapped, x -> call.accept(x, 1));
            } else {
                Expect.refused(name, STATE, scrapped, x -> call.accept(x, 1));
            }
        });
        Expect.refused("refund", STATE, () -> Scene.inState(Scene.HERE), x -> x.refund(1, 1));
        Expect.refused("comes", STATE, scrapped, x -> x.comes(0, 0, true));
    }

    private static void noRoom() {
        Expect.taken("the 20th sale", () -> Scene.withSales(0, 19), x -> x.sale(0, 1, 0));
        Expect.refused("a 21st sale", ROOM, () -> Scene.withSales(0, 20), x -> x.sale(0, 1, 0));
        Expect.refused("a 21st sale, all at their ends", ROOM, () -> Scene.withSales(0, 20),
                x -> x.sale(5, 100000, 1000));
    }

    private static void absentBeforeArgument() {
        callsWithNumbersOutside().forEach((name, call) -> {
            Expect.absent(name + ", nothing there", 1, 0, ReturnRows::new, call);
            Expect.absent(name + ", one return", 1, 1, () -> Scene.inState(Scene.HERE), call);
            Expect.absent(name + ", all returns", 1, 20, () -> Scene.full(20), call);
        });
        Expect.absent("comes, nothing there", 0, -1, ReturnRows::new, (x, sale) -> x.comes(sale, OUTSIDE, true));
        Expect.absent("comes, two sales", 0, 1, () -> Scene.withSales(0, 2), (x, sale) -> x.comes(sale, OUTSIDE, true));
    }

    private static void absentBeforeState() {
        for (int state : Scene.STATES) {
            Expect.absent("serial in state " + state, 0, 1, () -> Scene.inState(state), (x, sale) -> x.serial(1, sale));
        }
    }

    private static void absentBeforeRoom() {
        Expect.refused("comes when full", ABSENT, () -> Scene.full(20), x -> x.comes(20, 0, true));
        Expect.refused("comes when full, no sale below 0", ABSENT, () -> Scene.full(20), x -> x.comes(-1, 0, true));
        Expect.refused("comes when full, no such reason", ABSENT, () -> Scene.full(20), x -> x.comes(20, 8, true));
    }

    private static void argumentBeforeState() {
        Map<String, ObjIntConsumer<ReturnRows>> fitting = callsOfReturns();
        callsWithNumbersOutside().forEach((name, call) -> {
            for (int state : Scene.STATES) {
                Supplier<ReturnRows> maker = () -> Scene.inState(state);
                ReturnRows x = maker.get();
                String otherwise = Expect.thrownBy(() -> fitting.get(name).accept(x, 1));
                if (otherwise.equals("IllegalStateException")) {
                    Expect.refused(name + " in state " + state, ARGUMENT, maker, y -> call.accept(y, 1));
                }
            }
        });
        Expect.refused("comes of a sale that has one", ARGUMENT, () -> Scene.inState(Scene.HERE),
                x -> x.comes(0, 8, true));
        Expect.refused("grade in quarantine", ARGUMENT, () -> Scene.quarantined(Scene.HERE, 0), x -> x.grade(1, 5));
        Expect.refused("grade with a bad check", ARGUMENT, () -> Scene.withBadCheck(0), x -> x.grade(1, -1));
        Expect.refused("repair in quarantine", ARGUMENT, () -> Scene.quarantined(Scene.GRADED, 1),
                x -> x.repair(1, 6));
        Expect.refused("repair of the best", ARGUMENT, () -> Scene.inState(Scene.GRADED, 0), x -> x.repair(1, 0));
        Expect.refused("scrap of a good one", ARGUMENT, () -> Scene.inState(Scene.GRADED, 2), x -> x.scrap(1, 1001));
    }

    private static void argumentBeforeRoom() {
        Expect.refused("a 21st sale, customer", ARGUMENT, () -> Scene.full(0), x -> x.sale(6, 1, 0));
        Expect.refused("a 21st sale, price", ARGUMENT, () -> Scene.full(0), x -> x.sale(0, 100001, 0));
        Expect.refused("a 21st sale, last day", ARGUMENT, () -> Scene.full(0), x -> x.sale(0, 1, 1001));
        Expect.refused("a 21st return, reason", ARGUMENT, () -> Scene.full(20), x -> x.comes(19, 8, true));
    }

    private static void stateBeforeRoom() {
        Expect.refused("a 21st return", STATE, () -> Scene.full(20), x -> x.comes(19, 7, true));
        Expect.refused("a 21st return by itself", STATE, () -> Scene.full(20), x -> x.comes(0, 0, false));
    }
}
