import java.util.ArrayList;
import java.util.Arrays;
import java.util.List;
import java.util.Random;

/**
 * Runs with arguments inside and around their ranges: only the face's exceptions ever come out,
 * a call that is refused or only reads changes nothing, and what is told fits together.
 * No object gets more than the 512 calls of the document, so the runs are repeated on others.
 */
public final class RandomRunsTest {
    private static final int RUNS = 4000;
    private static final int CALLS = 180;
    private static final String NO = "NoSuchElementException";
    private static final String ARGUMENT = "IllegalArgumentException";
    private static final String STATE = "IllegalStateException";
    private static final String ROOM = "UnsupportedOperationException";
    private static final String[] NAMES = {"day", "sale", "comes", "arrive", "serial", "quarantine", "check", "grade",
        "repair", "step", "scrap", "back", "missing", "refund", "due", "reason", "customer", "told", "count"};
    private static final String[][] REFUSALS = {{ARGUMENT}, {ARGUMENT, ROOM}, {NO, ARGUMENT, STATE, ROOM},
        {NO, ARGUMENT, STATE}, {NO, STATE}, {NO, STATE}, {NO, ARGUMENT, STATE}, {NO, ARGUMENT, STATE},
        {NO, ARGUMENT, STATE}, {NO, STATE}, {NO, ARGUMENT, STATE}, {NO, STATE}, {NO, ARGUMENT, STATE},
        {NO, ARGUMENT, STATE}, {NO}, {ARGUMENT}, {ARGUMENT}, {NO, ARGUMENT}, {}};
    private static final int DAY = 0;
    private static final int SALE = 1;
    private static final int COMES = 2;
    private static final int FIRST_THAT_ONLY_READS = 14;

    private static final class Call {
        final int kind;
        final int a;
        final int b;
        final int c;
        final boolean flag;

        Call(int kind, int a, int b, int c, boolean flag) {
            this.kind = kind;
            this.a = a;
            this.b = b;
            this.c = c;
            this.flag = flag;
        }
    }

    private final Random random;
    private final List<Call> all = new ArrayList<>();
    private final List<Call> thatCount = new ArrayList<>();
    private int today = 0;
    private int sales = 0;
    private int returns = 0;

    private RandomRunsTest(long seed) {
        random = new Random(seed);
    }

    public static void main(String[] args) {
        for (int seed = 0; seed < RUNS; seed++) {
            new RandomRunsTest(seed).run();
        }
        Expect.finish();
    }

    private void run() {
        ReturnRows x = new ReturnRows();
        for (int i = 0; i < CALLS; i++) {
            Call call = next();
            all.add(call);
            String thrown = Expect.thrownBy(() -> apply(x, call));
            if (thrown.equals("nothing")) {
                note(call);
            } else {
                boolean fits = Arrays.asList(REFUSALS[call.kind]).contains(thrown);
                Expect.same(NAMES[call.kind] + " throwing " + thrown, fits ? 1 : 0, 1);
            }
        }
        Expect.same("the same without the calls that change nothing", Scene.everything(replayed(thatCount)),
                Scene.everything(x));
        sumsFit(replayed(all));
        returnsFit(replayed(all));
    }

    private void note(Call call) {
        if (call.kind < FIRST_THAT_ONLY_READS) {
            thatCount.add(call);
        }
        if (call.kind == DAY) {
            today = call.a;
        } else if (call.kind == SALE) {
            sales++;
        } else if (call.kind == COMES) {
            returns++;
        }
    }

    private static ReturnRows replayed(List<Call> calls) {
        ReturnRows x = new ReturnRows();
        for (Call call : calls) {
            Expect.thrownBy(() -> apply(x, call));
        }
        return x;
    }

    private Call next() {
        int kind = random.nextInt(NAMES.length);
        boolean often = random.nextInt(4) != 0;
        switch (kind) {
            case 0: return new Call(kind, today + random.nextInt(8) - 1, 0, 0, false);
            case 1: return new Call(kind, near(0, 5), near(1, 100000), near(0, 1000), false);
            case 2: return new Call(kind, saleNumber(), near(0, 7), 0, often);
            case 3: return new Call(kind, number(), often ? -1 : near(0, 9), 0, false);
            case 4: return new Call(kind, number(), saleNumber(), 0, false);
            case 5: return new Call(kind, number(), 0, 0, !often);
            case 6: return new Call(kind, number(), near(0, 4), 0, often);
            case 7: return new Call(kind, number(), near(0, 4), 0, false);
            case 8: return new Call(kind, number(), near(1, 5), 0, false);
            case 9: return new Call(kind, number(), 0, 0, often);
            case 10: return new Call(kind, number(), often ? near(1, 4) : near(1, 1000), 0, false);
            case 12: return new Call(kind, number(), near(0, 10), 0, false);
            case 13: return new Call(kind, number(), often ? near(1, 3000) : near(1, 100000), 0, false);
            case 15: return new Call(kind, near(0, 7), near(0, 2), 0, false);
            case 16: return new Call(kind, near(0, 5), near(0, 3), 0, false);
            case 17: return new Call(kind, number(), near(0, 11), 0, false);
            case 18: return new Call(kind, near(0, 7), 0, 0, false);
            default: return new Call(kind, number(), 0, 0, false);
        }
    }

    private static void apply(ReturnRows x, Call call) {
        switch (call.kind) {
            case 0: x.day(call.a); break;
            case 1: x.sale(call.a, call.b, call.c); break;
            case 2: x.comes(call.a, call.b, call.flag); break;
            case 3: x.arrive(call.a, call.b); break;
            case 4: x.serial(call.a, call.b); break;
            case 5: x.quarantine(call.a, call.flag); break;
            case 6: x.check(call.a, call.b, call.flag); break;
            case 7: x.grade(call.a, call.b); break;
            case 8: x.repair(call.a, call.b); break;
            case 9: x.step(call.a, call.flag); break;
            case 10: x.scrap(call.a, call.b); break;
            case 11: x.back(call.a); break;
            case 12: x.missing(call.a, call.b); break;
            case 13: x.refund(call.a, call.b); break;
            case 14: x.due(call.a); break;
            case 15: x.reason(call.a, call.b); break;
            case 16: x.customer(call.a, call.b); break;
            case 17: x.told(call.a, call.b); break;
            default: x.count(call.a); break;
        }
    }

    /** Mostly in the range, now and then at or just outside its ends, seldom far away. */
    private int near(int least, int most) {
        switch (random.nextInt(40)) {
            case 0: return least - 1;
            case 1: return most + 1;
            case 2: return random.nextInt();
            case 3: return least;
            case 4: return most;
            default: return least + random.nextInt(most - least + 1);
        }
    }

    /** Half of the time among the first returns, so that these come far. */
    private int number() {
        int last = Math.max(1, returns);
        return near(1, random.nextBoolean() ? Math.min(2, last) : last);
    }

    private int saleNumber() {
        return near(0, Math.max(0, sales - 1));
    }

    private void sumsFit(ReturnRows x) {
        int byReasons = 0;
        int paid = 0;
        int scrapped = 0;
        for (int reason = 0; reason <= 7; reason++) {
            byReasons += x.reason(reason, 0);
            paid += x.reason(reason, 1);
            scrapped += x.reason(reason, 2);
        }
        int sold = 0;
        int byCustomers = 0;
        int wrong = 0;
        for (int customer = 0; customer <= 5; customer++) {
            sold += x.customer(customer, 0);
            byCustomers += x.customer(customer, 1);
            wrong += x.customer(customer, 2);
        }
        Expect.same("today", x.count(2), today);
        Expect.same("sales", x.count(0), sales);
        Expect.same("sales by customers", sold, sales);
        Expect.same("returns", x.count(1), returns);
        Expect.same("returns by reasons", byReasons, returns);
        Expect.same("returns by customers", byCustomers, returns);
        Expect.same("paid by reasons", paid, x.count(7));
        Expect.same("scrapped by reasons", scrapped, returnsTold(x, 0, Scene.SCRAPPED));
        Expect.same("wrong by customers", wrong, returnsTold(x, 8, 1));
        Expect.same("quarantined", x.count(3), returnsTold(x, 7, 1));
        Expect.same("back by classes", x.count(4) + x.count(5) + x.count(6), returnsTold(x, 0, Scene.BACK));
    }

    private int returnsTold(ReturnRows x, int what, int value) {
        int found = 0;
        for (int number = 1; number <= returns; number++) {
            if (x.told(number, what) == value) {
                found++;
            }
        }
        return found;
    }

    private void returnsFit(ReturnRows x) {
        for (int number = 1; number <= returns; number++) {
            int state = x.told(number, 0);
            int grade = x.told(number, 3);
            int best = x.told(number, 5);
            Expect.same("a grade from GRADED on alone", grade >= 0 ? 1 : 0, state >= Scene.GRADED ? 1 : 0);
            Expect.same("the best grade is none worse", best <= grade ? 1 : 0, 1);
            Expect.same("steps left in repair alone", x.told(number, 9) > 0 ? 1 : 0,
                    state == Scene.IN_REPAIR ? 1 : 0);
            if (grade < 0 || x.told(number, 8) == 1) {
                Expect.same("nothing is due", x.due(number), 0);
            }
        }
    }
}
