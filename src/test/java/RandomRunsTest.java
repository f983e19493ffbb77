import java.util.Map;
import java.util.Random;
import java.util.TreeMap;

/**
 * Runs of 512 calls, all that an object is used for, with arguments inside and around their ranges:
 * each answer is that of the Model, and each kind of call is both accepted and refused in each way.
 */
public final class RandomRunsTest {
    private static final int RUNS = 1500;
    private static final int CALLS = 512;
    private static final int MOST_RETURNS = 20;
    private static final String ACCEPTED = "accepted";
    private static final Map<String, Integer> SEEN = new TreeMap<>();

    private final Random random;
    private final int lastCustomer;
    private final int longestWait;
    private final Model model = new Model();

    private RandomRunsTest(long seed) {
        random = new Random(seed);
        lastCustomer = random.nextInt(6);
        longestWait = random.nextInt(3) == 0 ? 1 : 12;
    }

    public static void main(String[] args) {
        for (int seed = 0; seed < RUNS; seed++) {
            new RandomRunsTest(seed).run(seed);
        }
        allSeen();
        Expect.finish();
    }

    private void run(int seed) {
        ReturnRows x = new ReturnRows();
        for (int i = 0; i < CALLS; i++) {
            Call call = next();
            String due = model.answer(call);
            Expect.same("run " + seed + ", call " + i + ", " + call, call.answerOf(x), due);
            SEEN.merge(call.name() + " " + (due.endsWith("Exception") ? due : ACCEPTED), 1, Integer::sum);
        }
        SEEN.merge(model.returns() == MOST_RETURNS ? "run full" : "run not full", 1, Integer::sum);
    }

    /** Without this a run that is refused everywhere would look as good as one that goes far. */
    private static void allSeen() {
        seen("day", ACCEPTED, Model.ARGUMENT);
        seen("sale", ACCEPTED, Model.ARGUMENT, Model.ROOM);
        seen("comes", ACCEPTED, Model.ABSENT, Model.ARGUMENT, Model.STATE);
        for (String name : new String[] {"arrive", "check", "grade", "repair", "scrap", "missing", "refund"}) {
            seen(name, ACCEPTED, Model.ABSENT, Model.ARGUMENT, Model.STATE);
        }
        for (String name : new String[] {"serial", "quarantine", "step", "back"}) {
            seen(name, ACCEPTED, Model.ABSENT, Model.STATE);
        }
        seen("due", ACCEPTED, Model.ABSENT);
        seen("reason", ACCEPTED, Model.ARGUMENT);
        seen("customer", ACCEPTED, Model.ARGUMENT);
        seen("told", ACCEPTED, Model.ABSENT, Model.ARGUMENT);
        seen("count", ACCEPTED);
        seen("run", "full", "not full");
        Expect.same("ways that are not the face's", SEEN.toString(), "{}");
    }

    private static void seen(String name, String... ways) {
        for (String way : ways) {
            int times = SEEN.getOrDefault(name + " " + way, 0);
            SEEN.remove(name + " " + way);
            Expect.same(name + " " + way + " in " + times + " calls", times >= RUNS / 10, true);
        }
    }

    private Call next() {
        int kind = random.nextInt(Call.KINDS);
        boolean often = random.nextInt(4) != 0;
        switch (kind) {
            case Call.DAY: return call(kind, model.today() + random.nextInt(longestWait + 1) - (often ? 0 : 1), 0);
            case Call.SALE: return sale(near(1, often ? 3000 : 100000));
            case Call.COMES: return comes(random.nextInt(3) != 0, often);
            case Call.ARRIVE: return call(kind, number(), often ? -1 : near(0, 9));
            case Call.SERIAL: return serial(number(), often);
            case Call.QUARANTINE: return new Call(kind, number(), 0, 0, !often);
            case Call.CHECK: return new Call(kind, number(), near(0, 4), 0, often);
            case Call.GRADE: return call(kind, number(), near(0, 4));
            case Call.REPAIR: return call(kind, number(), near(1, often ? 2 : 5));
            case Call.STEP: return new Call(kind, number(), 0, 0, often);
            case Call.SCRAP: return call(kind, number(), near(1, often ? 4 : 1000));
            case Call.MISSING: return call(kind, number(), near(0, often ? 2 : 10));
            case Call.REFUND: return call(kind, number(), near(1, often ? 1000 : 100000));
            case Call.REASON: return call(kind, near(0, 7), near(0, 2));
            case Call.CUSTOMER: return call(kind, near(0, lastCustomer), near(0, 3));
            case Call.TOLD: return call(kind, number(), near(0, 11));
            case Call.COUNT: return call(kind, near(0, 7), 0);
            default: return call(kind, number(), 0);
        }
    }

    private static Call call(int kind, int a, int b) {
        return new Call(kind, a, b, 0, false);
    }

    private Call sale(int price) {
        return new Call(Call.SALE, near(0, lastCustomer), price, lotsEnd(), false);
    }

    /** Of a sale that has no return yet, or of any one: by chance alone the last of them would hardly come. */
    private Call comes(boolean anew, boolean announced) {
        return new Call(Call.COMES, anew ? model.saleWithoutReturn() : saleNumber(), near(0, 7), 0, announced);
    }

    private Call serial(int number, boolean own) {
        return call(Call.SERIAL, number, own ? model.saleOf(number) : saleNumber());
    }

    /** Mostly soon, so that lots end while their returns are there. */
    private int lotsEnd() {
        return random.nextInt(3) == 0 ? near(0, 1000) : model.today() + random.nextInt(60);
    }

    /** Mostly in the range, now and then at or just outside its ends, seldom far away. */
    private int near(int least, int most) {
        switch (random.nextInt(40)) {
            case 0: return least - 1;
            case 1: return most + 1;
            case 2: return random.nextInt();
            case 3: return least;
            case 4: return most;
            default: return least + random.nextInt(most - least + 1);
        }
    }

    /** Half of the time among the latest returns, so that these come far before their lots end. */
    private int number() {
        int latest = Math.max(1, model.returns());
        return near(random.nextBoolean() ? Math.max(1, latest - 1) : 1, latest);
    }

    private int saleNumber() {
        return near(0, Math.max(0, model.sales() - 1));
    }
}
