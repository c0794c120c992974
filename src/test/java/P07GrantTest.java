public final class P07GrantTest {
    public static void main(String[] args) {
        Check t = new Check();
        wrongInputs(t);
        leastAndMost(t);
        noMoreThanThePool(t);
        noMoreThanTen(t);
        t.end();
    }

    private static void wrongInputs(Check t) {
        StableSale x = new StableSale();
        x.pool(5000);
        t.throwsMissing(() -> x.grant(-1, 1, 0, 0));
        t.throwsMissing(() -> x.grant(8, 1, 0, 0));
        t.throwsMissing(() -> x.grant(8, 0, 5, 4));
        t.throwsArgument(() -> x.grant(0, 0, 0, 0));
        t.throwsArgument(() -> x.grant(0, 2001, 0, 0));
        t.throwsArgument(() -> x.grant(0, -1, 0, 0));
        t.throwsArgument(() -> x.grant(0, 1, -1, 5));
        t.throwsArgument(() -> x.grant(0, 1, 61, 61));
        t.throwsArgument(() -> x.grant(0, 1, 0, 61));
        t.throwsArgument(() -> x.grant(0, 1, 0, -1));
        t.throwsArgument(() -> x.grant(0, 1, -2, -1));
        t.throwsArgument(() -> x.grant(0, 1, 5, 4));
        t.due(0, x.granted());
        t.throwsMissing(() -> x.vested(0));
        x.pool(0);
        t.throwsArgument(() -> x.grant(0, 2001, 0, 0));
        t.throwsState(() -> x.grant(0, 2000, 0, 0));
    }

    private static void leastAndMost(Check t) {
        StableSale x = new StableSale();
        x.pool(5000);
        t.due(0, x.grant(0, 1, 0, 0));
        t.due(1, x.grant(7, 2000, 60, 60));
        t.due(2, x.grant(7, 2000, 4, 4));
        t.due(4001, x.granted());
        t.due(0, x.inIssue(0));
        t.due(0, x.asConverted());
    }

    private static void noMoreThanThePool(Check t) {
        StableSale x = new StableSale();
        t.throwsState(() -> x.grant(0, 1, 0, 0));
        x.pool(10);
        t.throwsState(() -> x.grant(0, 11, 0, 0));
        t.due(0, x.grant(0, 6, 0, 0));
        t.throwsState(() -> x.grant(0, 5, 0, 0));
        x.exercise(0, 6);
        t.throwsState(() -> x.grant(0, 5, 0, 0));
        t.due(1, x.grant(1, 4, 10, 10));
        x.leave(1);
        t.due(2, x.grant(1, 4, 10, 10));
        t.due(10, x.granted());
    }

    private static void noMoreThanTen(Check t) {
        StableSale x = new StableSale();
        x.pool(5000);
        for (int g = 0; g < 10; g++) {
            t.due(g, x.grant(g % 8, 1, 5, 5));
        }
        t.throwsState(() -> x.grant(0, 1, 0, 0));
        t.throwsArgument(() -> x.grant(0, 0, 0, 0));
        for (int holder = 0; holder < 8; holder++) {
            x.leave(holder);
        }
        t.due(0, x.granted());
        t.throwsState(() -> x.grant(0, 1, 0, 0));
    }
}
