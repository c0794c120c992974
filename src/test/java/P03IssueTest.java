public final class P03IssueTest {
    public static void main(String[] args) {
        Check t = new Check();
        countsWhatIsInIssue(t);
        refusesWrongCalls(t);
        fullGuard(t);
        averageGuard(t);
        guardsLookBeforeAnyIsChanged(t);
        whoIsNotGuarded(t);
        t.end();
    }

    private static void countsWhatIsInIssue(Check t) {
        StableSale x = new StableSale();
        t.due(1, x.issue(0, 0, 1, 1));
        t.due(1001, x.issue(0, 7, 1000, 1000));
        t.due(1003, x.issue(0, 0, 2, 5));
        t.due(3, x.held(0, 0));
        t.due(1000, x.held(0, 7));
        x.preferred(10, 100, 0, 0, 100, 0);
        t.due(4, x.issue(1, 3, 4, 10));
        t.due(1003, x.inIssue(0));
    }

    private static void refusesWrongCalls(Check t) {
        StableSale x = new StableSale();
        t.throwsMissing(() -> x.issue(-1, 0, 1, 1));
        t.throwsMissing(() -> x.issue(1, 0, 1, 1));
        t.throwsMissing(() -> x.issue(0, -1, 1, 1));
        t.throwsMissing(() -> x.issue(0, 8, 1, 1));
        t.throwsMissing(() -> x.issue(0, 8, 0, 0));
        t.throwsMissing(() -> x.issue(Integer.MAX_VALUE, 0, 1, 1));
        t.throwsArgument(() -> x.issue(0, 0, 0, 1));
        t.throwsArgument(() -> x.issue(0, 0, 1001, 1));
        t.throwsArgument(() -> x.issue(0, 0, 1, 0));
        t.throwsArgument(() -> x.issue(0, 0, 1, 1001));
        t.throwsArgument(() -> x.issue(0, 0, Integer.MAX_VALUE, 1));
        for (int i = 1; i <= 4; i++) {
            x.issue(0, i, 1000, 1);
        }
        t.due(4001, x.issue(0, 0, 1, 1));
        t.throwsState(() -> x.issue(0, 0, 1000, 1));
        t.due(5000, x.issue(0, 0, 999, 1));
        t.throwsState(() -> x.issue(0, 0, 1, 1));
        t.throwsArgument(() -> x.issue(0, 0, 1001, 1));
        t.due(5000, x.inIssue(0));
    }

    private static void fullGuard(Check t) {
        StableSale x = new StableSale();
        x.preferred(10, 100, 0, 0, 100, 2);
        x.issue(1, 0, 100, 10);
        x.issue(0, 0, 1, 10);
        t.due(10000, x.conversion(1));
        x.issue(0, 0, 1, 9);
        t.due(9000, x.conversion(1));
        x.issue(0, 0, 1, 10);
        t.due(9000, x.conversion(1));
        x.issue(0, 0, 1, 1);
        t.due(1000, x.conversion(1));
    }

    private static void averageGuard(Check t) {
        StableSale x = new StableSale();
        x.preferred(10, 100, 0, 0, 100, 1);
        x.issue(0, 0, 100, 10);
        x.issue(1, 1, 100, 10);
        x.issue(0, 2, 50, 5);
        t.due(9000, x.conversion(1));
        t.due(261, x.asConverted());
        // (9000 * 261 + 1000 * 7) / 268 = 8791.04..
        x.issue(0, 2, 7, 1);
        t.due(8791, x.conversion(1));
        x.issue(0, 2, 7, 9);
        t.due(8791, x.conversion(1));
    }

    private static void guardsLookBeforeAnyIsChanged(Check t) {
        StableSale x = new StableSale();
        x.preferred(100, 100, 0, 0, 100, 2);
        x.preferred(100, 100, 0, 0, 100, 1);
        x.issue(1, 0, 10, 100);
        x.issue(2, 0, 10, 100);
        x.issue(0, 0, 20, 1);
        t.due(1000, x.conversion(1));
        // A is 20, not the 1010 that class 1 makes of it: (100000 * 20 + 1000 * 20) / 40
        t.due(50500, x.conversion(2));
    }

    private static void whoIsNotGuarded(Check t) {
        StableSale x = new StableSale();
        x.preferred(10, 100, 0, 0, 100, 0);
        x.preferred(10, 100, 0, 0, 100, 2);
        x.preferred(10, 100, 0, 0, 100, 1);
        x.preferred(10, 100, 0, 0, 100, 2);
        x.issue(1, 0, 10, 10);
        x.issue(2, 0, 10, 10);
        x.issue(3, 0, 10, 10);
        x.issue(2, 0, 10, 5);
        t.due(10000, x.conversion(1));
        t.due(10000, x.conversion(2));
        // (10000 * 30 + 5000 * 10) / 40
        t.due(8750, x.conversion(3));
        t.due(10000, x.conversion(4));
        x.convert(3, 0, 10);
        x.issue(0, 0, 10, 1);
        t.due(1000, x.conversion(2));
        t.due(8750, x.conversion(3));
    }
}
