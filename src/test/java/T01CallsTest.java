/** 'What it is': an object is used for at most 512 calls, so the 511th and the 512th answer like all before them. */
public final class T01CallsTest {
    private static final int MOST_CALLS = 512;

    public static void main(String[] args) {
        Check t = new Check();
        monthsPassUntilTheLastCall(t);
        optionsVestUntilTheLastCall(t);
        refusedCallsUntilTheLastCall(t);
        undoIsTheLastCall(t);
        questionsUntilTheLastCall(t);
        t.end();
    }

    private static void monthsPassUntilTheLastCall(Check t) {
        StableSale x = new StableSale();
        for (int call = 1; call <= MOST_CALLS; call++) {
            t.due(60 * call, x.pass(60));
        }
    }

    private static void optionsVestUntilTheLastCall(Check t) {
        for (int months = 59; months <= 60; months++) {
            StableSale x = new StableSale();
            x.pool(100);
            x.grant(0, 100, 60, 60);
            for (int call = 3; call <= MOST_CALLS - 2; call++) {
                x.pass(0);
            }
            t.due(months, x.pass(months));
            t.due(months < 60 ? 0 : 100, x.vested(0));
        }
    }

    private static void refusedCallsUntilTheLastCall(Check t) {
        StableSale x = new StableSale();
        for (int call = 1; call <= MOST_CALLS - 2; call++) {
            t.throwsArgument(() -> x.issue(0, 0, 0, 1));
        }
        t.due(7, x.issue(0, 0, 7, 1));
        t.due(0, x.undo());
    }

    private static void undoIsTheLastCall(Check t) {
        StableSale x = new StableSale();
        x.issue(0, 0, 1000, 1);
        for (int call = 2; call <= MOST_CALLS - 9; call++) {
            t.due(call - 1, x.transfer(0, 0, 1, 1));
        }
        for (int more = 7; more >= 0; more--) {
            t.due(more, x.undo());
        }
        t.due(MOST_CALLS - 10 - 8, x.held(0, 1));
    }

    private static void questionsUntilTheLastCall(Check t) {
        StableSale x = new StableSale();
        x.preferred(10, 100, 0, 0, 100, 0);
        x.issue(0, 0, 100, 10);
        x.issue(1, 1, 100, 10);
        for (int call = 4; call <= MOST_CALLS; call++) {
            t.due(200002, x.flip(0, 2000000000));
        }
    }
}
