public final class P03IssueTest {
    public static void main(String[] args) {
        Check t = new Check();
        countsWhatIsInIssue(t);
        boundsOfEachNumber(t);
        fiveThousandOfEachClass(t);
        onlyWhatIsInIssueCounts(t);
        missingGoesBeforeWrongAndThisBeforeFull(t);
        fullGuard(t);
        averageGuard(t);
        guardsLookBeforeAnyIsChanged(t);
        whoIsNotGuarded(t);
        t.end();
    }

    private static void countsWhatIsInIssue(Check t) {
        StableSale x = new StableSale();
        t.due(1, x.issue(0, 0, 1, 1));
        t.due(1001, x.issue(0, 7, 1000, 1000));
        t.due(1003, x.issue(0, 0, 2, 5));
        t.due(3, x.held(0, 0));
        t.due(1000, x.held(0, 7));
        x.preferred(10, 100, 0, 0, 100, 0);
        t.due(4, x.issue(1, 3, 4, 10));
        t.due(1003, x.inIssue(0));
    }

    private static StableSale withTwoClasses() {
        StableSale x = new StableSale();
        x.preferred(10, 100, 0, 0, 100, 0);
        x.preferred(20, 100, 0, 0, 100, 0);
        return x;
    }

    private static void boundsOfEachNumber(Check t) {
        t.elementsFrom(0, 2, c -> withTwoClasses().issue(c, 0, 1, 1));
        t.elementsFrom(0, 7, holder -> withTwoClasses().issue(1, holder, 1, 1));
        t.argumentFrom(1, 1000, s -> withTwoClasses().issue(1, 0, s, 1));
        t.argumentFrom(1, 1000, p -> withTwoClasses().issue(1, 0, 1, p));
    }

    private static void fiveThousandOfEachClass(Check t) {
        for (int c = 0; c <= 2; c++) {
            int number = c;
            StableSale x = withTwoClasses();
            for (int i = 1; i <= 4; i++) {
                t.due(1000 * i, x.issue(number, i, 1000, 1));
            }
            t.due(4001, x.issue(number, 0, 1, 1));
            t.throwsState(() -> x.issue(number, 0, 1000, 1));
            t.due(5000, x.issue(number, 0, 999, 1));
            t.throwsState(() -> x.issue(number, 0, 1, 1));
            t.due(5000, x.inIssue(number));
            t.due(1, x.issue(number == 0 ? 1 : 0, 0, 1, 1));
            t.due(7, x.undo());
            t.due(6, x.undo());
            t.due(4999, x.issue(number, 0, 998, 1));
            t.due(5000, x.issue(number, 0, 1, 1));
        }
    }

    private static void onlyWhatIsInIssueCounts(Check t) {
        StableSale x = withTwoClasses();
        for (int i = 1; i <= 5; i++) {
            x.issue(1, i, 1000, 1);
        }
        t.throwsState(() -> x.issue(1, 0, 1, 1));
        t.due(1, x.convert(1, 1, 1));
        t.throwsState(() -> x.issue(1, 0, 2, 1));
        t.due(5000, x.issue(1, 0, 1, 1));

        // More common ones than 5000 come by converting: then no round of them is left.
        for (int i = 2; i <= 5; i++) {
            x.convert(1, i, 1000);
        }
        t.due(4001, x.inIssue(0));
        t.due(1999, x.issue(1, 2, 999, 1));
        t.due(999, x.convert(1, 2, 999));
        t.due(5000, x.inIssue(0));
        t.throwsState(() -> x.issue(0, 0, 1, 1));
        x.convert(1, 1, 1);
        t.due(5001, x.inIssue(0));
        t.throwsState(() -> x.issue(0, 0, 1, 1));
    }

    private static void missingGoesBeforeWrongAndThisBeforeFull(Check t) {
        StableSale x = withTwoClasses();
        for (int i = 1; i <= 5; i++) {
            x.issue(0, 0, 1000, 1);
        }
        t.throwsMissing(() -> x.issue(3, 0, 0, 0));
        t.throwsMissing(() -> x.issue(-1, 0, 1, 1001));
        t.throwsMissing(() -> x.issue(0, 8, 1001, 1));
        t.throwsMissing(() -> x.issue(0, -1, 1, 1));
        t.throwsArgument(() -> x.issue(0, 0, 0, 1));
        t.throwsArgument(() -> x.issue(0, 0, 1001, 1));
        t.throwsArgument(() -> x.issue(0, 0, 1, 0));
        t.throwsArgument(() -> x.issue(0, 0, 1, 1001));
        t.throwsState(() -> x.issue(0, 0, 1, 1));
        t.due(5000, x.inIssue(0));
        t.due(5000, x.held(0, 0));
    }

    private static void fullGuard(Check t) {
        StableSale x = new StableSale();
        x.preferred(10, 100, 0, 0, 100, 2);
        x.issue(1, 0, 100, 10);
        x.issue(0, 0, 1, 10);
        t.due(10000, x.conversion(1));
        x.issue(0, 0, 1, 9);
        t.due(9000, x.conversion(1));
        x.issue(0, 0, 1, 10);
        t.due(9000, x.conversion(1));
        x.issue(0, 0, 1, 1);
        t.due(1000, x.conversion(1));
    }

    private static void averageGuard(Check t) {
        StableSale x = new StableSale();
        x.preferred(10, 100, 0, 0, 100, 1);
        x.issue(0, 0, 100, 10);
        x.issue(1, 1, 100, 10);
        x.issue(0, 2, 50, 5);
        t.due(9000, x.conversion(1));
        t.due(261, x.asConverted());
        // (9000 * 261 + 1000 * 7) / 268 = 8791.04..
        x.issue(0, 2, 7, 1);
        t.due(8791, x.conversion(1));
        x.issue(0, 2, 7, 9);
        t.due(8791, x.conversion(1));
    }

    private static void guardsLookBeforeAnyIsChanged(Check t) {
        StableSale x = new StableSale();
        x.preferred(100, 100, 0, 0, 100, 2);
        x.preferred(100, 100, 0, 0, 100, 1);
        x.issue(1, 0, 10, 100);
        x.issue(2, 0, 10, 100);
        x.issue(0, 0, 20, 1);
        t.due(1000, x.conversion(1));
        // A is 20, not the 1010 that class 1 makes of it: (100000 * 20 + 1000 * 20) / 40
        t.due(50500, x.conversion(2));
    }

    private static void whoIsNotGuarded(Check t) {
        StableSale x = new StableSale();
        x.preferred(10, 100, 0, 0, 100, 0);
        x.preferred(10, 100, 0, 0, 100, 2);
        x.preferred(10, 100, 0, 0, 100, 1);
        x.preferred(10, 100, 0, 0, 100, 2);
        x.issue(1, 0, 10, 10);
        x.issue(2, 0, 10, 10);
        x.issue(3, 0, 10, 10);
        x.issue(2, 0, 10, 5);
        t.due(10000, x.conversion(1));
        t.due(10000, x.conversion(2));
        // (10000 * 30 + 5000 * 10) / 40
        t.due(8750, x.conversion(3));
        t.due(10000, x.conversion(4));
        x.convert(3, 0, 10);
        x.issue(0, 0, 10, 1);
        t.due(1000, x.conversion(2));
        t.due(8750, x.conversion(3));
    }
}
