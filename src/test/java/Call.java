/** One call of the face with its arguments, to be asked of the class and of the Model alike. */
final class Call {
    static final int DAY = 0;
    static final int SALE = 1;
    static final int COMES = 2;
    static final int ARRIVE = 3;
    static final int SERIAL = 4;
    static final int QUARANTINE = 5;
    static final int CHECK = 6;
    static final int GRADE = 7;
    static final int REPAIR = 8;
    static final int STEP = 9;
    static final int SCRAP = 10;
    static final int BACK = 11;
    static final int MISSING = 12;
    static final int REFUND = 13;
    static final int DUE = 14;
    static final int REASON = 15;
    static final int CUSTOMER = 16;
    static final int TOLD = 17;
    static final int COUNT = 18;
    static final int KINDS = 19;

    /** What a call without an answer answers. */
    static final int DONE = 0;

    private static final String[] NAMES = {"day", "sale", "comes", "arrive", "serial", "quarantine", "check", "grade",
        "repair", "step", "scrap", "back", "missing", "refund", "due", "reason", "customer", "told", "count"};

    final int kind;
    final int a;
    final int b;
    final int c;
    final boolean flag;

    Call(int kind, int a, int b, int c, boolean flag) {
        this.kind = kind;
        this.a = a;
        this.b = b;
        this.c = c;
        this.flag = flag;
    }

    /** The number that the object answers, or the simple name of what it throws. */
    String answerOf(ReturnRows x) {
        int[] answer = {DONE};
        String thrown = Expect.thrownBy(() -> answer[0] = ask(x));
        return thrown.equals("nothing") ? String.valueOf(answer[0]) : thrown;
    }

    private int ask(ReturnRows x) {
        switch (kind) {
            case DAY: x.day(a); return DONE;
            case SALE: return x.sale(a, b, c);
            case COMES: return x.comes(a, b, flag);
            case ARRIVE: x.arrive(a, b); return DONE;
            case SERIAL: return x.serial(a, b);
            case QUARANTINE: x.quarantine(a, flag); return DONE;
            case CHECK: return x.check(a, b, flag);
            case GRADE: return x.grade(a, b);
            case REPAIR: x.repair(a, b); return DONE;
            case STEP: return x.step(a, flag);
            case SCRAP: return x.scrap(a, b) ? 1 : 0;
            case BACK: return x.back(a);
            case MISSING: x.missing(a, b); return DONE;
            case REFUND: return x.refund(a, b);
            case DUE: return x.due(a);
            case REASON: return x.reason(a, b);
            case CUSTOMER: return x.customer(a, b);
            case TOLD: return x.told(a, b);
            default: return x.count(a);
        }
    }

    String name() {
        return NAMES[kind];
    }

    @Override
    public String toString() {
        return name() + "(" + a + ", " + b + ", " + c + ", " + flag + ")";
    }
}
