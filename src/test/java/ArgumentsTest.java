/** Each call with every mixture of numbers on and beside its bounds, in four states, held against the plain model. */
public final class ArgumentsTest {
    private interface CallWith {
        int answer(int[] n);
    }

    private static final int LEAST = Integer.MIN_VALUE;
    private static final int GREATEST = Integer.MAX_VALUE;
    private static final java.util.Set<String> CHANGES = java.util.Set.of(
            "preferred", "issue", "transfer", "convert", "pool", "grant", "pass", "leave", "exercise");
    private static final int CALLS_OF_ONE_OBJECT = 400;

    private static final int[] CLASSES = {LEAST, -2, -1, 0, 1, 2, 3, 4, 5, GREATEST};
    private static final int[] HOLDERS = {-1, 0, 1, 7, 8};
    private static final int[] SHARES = {LEAST, -1, 0, 1, 2, 19, 20, 999, 1000, 1001, GREATEST};
    private static final int[] CENTS = {0, 1, 2, 1000, 1001};
    private static final int[] MONTHS = {-1, 0, 1, 5, 59, 60, 61};
    private static final int[] GRANTS = {LEAST, -1, 0, 1, 8, 9, 10, GREATEST};
    private static final int[] AMOUNTS = {LEAST, -1, 0, 1, 1000000, 1999999999, 2000000000, 2000000001, GREATEST};
    private static final int[] SETS = {LEAST, -1, 0, 1, 2, 3, 7, 8, 15, 16, 31, GREATEST};

    private final Check t = new Check();
    private int state;
    private StableSale x;
    private PlainModel y;
    private int calls;

    public static void main(String[] args) {
        ArgumentsTest test = new ArgumentsTest();
        for (int state = 0; state < 4; state++) {
            test.state = state;
            test.begin();
            test.changes();
            test.questions();
        }
        test.t.end();
    }

    private void changes() {
        compare("preferred", n -> x.preferred(n[0], n[1], n[2], n[3], n[4], n[5]),
                n -> y.preferred(n[0], n[1], n[2], n[3], n[4], n[5]),
                CENTS, new int[] {49, 50, 300, 301}, new int[] {-1, 0, 3, 4}, new int[] {-1, 0, 2, 3},
                new int[] {99, 100, 900, 901}, new int[] {-1, 0, 2, 3});
        compare("issue", n -> x.issue(n[0], n[1], n[2], n[3]), n -> y.issue(n[0], n[1], n[2], n[3]),
                CLASSES, HOLDERS, SHARES, CENTS);
        compare("transfer", n -> x.transfer(n[0], n[1], n[2], n[3]), n -> y.transfer(n[0], n[1], n[2], n[3]),
                CLASSES, HOLDERS, HOLDERS, SHARES);
        compare("convert", n -> x.convert(n[0], n[1], n[2]), n -> y.convert(n[0], n[1], n[2]), CLASSES, HOLDERS, SHARES);
        compare("pool", n -> x.pool(n[0]), n -> y.pool(n[0]),
                new int[] {LEAST, -1, 0, 1, 2000, 2001, 2002, 2009, 2010, 2011, 4999, 5000, 5001, GREATEST});
        compare("grant", n -> x.grant(n[0], n[1], n[2], n[3]), n -> y.grant(n[0], n[1], n[2], n[3]),
                HOLDERS, new int[] {LEAST, -1, 0, 1, 2, 1999, 2000, 2001, GREATEST}, MONTHS, MONTHS);
        compare("pass", n -> x.pass(n[0]), n -> y.pass(n[0]), MONTHS);
        compare("leave", n -> x.leave(n[0]), n -> y.leave(n[0]), HOLDERS);
        compare("exercise", n -> x.exercise(n[0], n[1]), n -> y.exercise(n[0], n[1]), GRANTS, SHARES);
    }

    private void questions() {
        compare("vested", n -> x.vested(n[0]), n -> y.vested(n[0]), GRANTS);
        compare("granted", n -> x.granted(), n -> y.granted());
        compare("held", n -> x.held(n[0], n[1]), n -> y.held(n[0], n[1]), CLASSES, HOLDERS);
        compare("inIssue", n -> x.inIssue(n[0]), n -> y.inIssue(n[0]), CLASSES);
        compare("asConverted", n -> x.asConverted(), n -> y.asConverted());
        compare("conversion", n -> x.conversion(n[0]), n -> y.conversion(n[0]), CLASSES);
        compare("set", n -> x.set(n[0]), n -> y.set(n[0]), AMOUNTS);
        compare("gets", n -> x.gets(n[0], n[1], n[2]), n -> y.gets(n[0], n[1], n[2]), AMOUNTS, SETS, CLASSES);
        compare("brings", n -> x.brings(n[0], n[1]), n -> y.brings(n[0], n[1]), AMOUNTS, HOLDERS);
        compare("flip", n -> x.flip(n[0], n[1]), n -> y.flip(n[0], n[1]), AMOUNTS, AMOUNTS);
    }

    /** Nothing; a few of all; four classes and ten grants; all that is bounded being full. */
    private void begin() {
        x = new StableSale();
        y = new PlainModel();
        calls = 0;
        if (state > 0) {
            make(1000, 100, 0, 0, 2);
            make(10, 150, 1, 2, 1);
            issue(1, 1, 1000, 1000);
            issue(2, 0, 20, 1000);
            issue(0, 0, 999, 1000);
            pool(2011);
            grant(1, 1, 0, 0);
            grant(0, 2000, 5, 60);
        }
        if (state > 1) {
            make(20, 300, 1, 1, 0);
            make(1, 50, 3, 2, 2);
            issue(3, 7, 1000, 1000);
            issue(0, 7, 1, 1);
            grant(1, 2, 0, 0);
            for (int g = 3; g < 10; g++) {
                grant(7, 1, 0, 60);
            }
        }
        if (state > 2) {
            for (int i = 0; i < 4; i++) {
                issue(1, 0, 1000, 1000);
            }
            x.convert(1, 1, 18);
            y.convert(1, 1, 18);
            issue(1, 7, 18, 1000);
            x.convert(3, 7, 999);
            y.convert(3, 7, 999);
            pool(2010);
            x.pass(5);
            y.pass(5);
        }
    }

    private void make(int price, int multiple, int rank, int kind, int guard) {
        x.preferred(price, multiple, rank, kind, 250, guard);
        y.preferred(price, multiple, rank, kind, 250, guard);
    }

    private void issue(int c, int holder, int s, int p) {
        x.issue(c, holder, s, p);
        y.issue(c, holder, s, p);
    }

    private void pool(int shares) {
        x.pool(shares);
        y.pool(shares);
    }

    private void grant(int holder, int shares, int cliff, int length) {
        x.grant(holder, shares, cliff, length);
        y.grant(holder, shares, cliff, length);
    }

    private void compare(String name, CallWith program, CallWith model, int[]... values) {
        int mixtures = 1;
        for (int[] some : values) {
            mixtures *= some.length;
        }
        int[] n = new int[values.length];
        for (int mixture = 0; mixture < mixtures; mixture++) {
            int left = mixture;
            for (int i = 0; i < values.length; i++) {
                n[i] = values[i][left % values[i].length];
                left /= values[i].length;
            }
            compareOne(name, program, model, n);
        }
    }

    private void compareOne(String name, CallWith program, CallWith model, int[] n) {
        if (calls > CALLS_OF_ONE_OBJECT) {
            begin();
        }
        calls++;
        String got = answerOf(program, n);
        String want = answerOf(model, n);
        if (!got.equals(want)) {
            t.report("state " + state + ": " + name + java.util.Arrays.toString(n) + " answered " + got + ", the model " + want);
        }
        if (isAnswer(want) && CHANGES.contains(name)) {
            t.due(y.undo(), x.undo());
            calls++;
        }
    }

    private static boolean isAnswer(String text) {
        return !text.endsWith("Exception");
    }

    private static String answerOf(CallWith call, int[] n) {
        try {
            return Integer.toString(call.answer(n));
        } catch (RuntimeException e) {
            return e.getClass().getSimpleName();
        }
    }
}
