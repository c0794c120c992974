public final class P05ConvertTest {
    public static void main(String[] args) {
        Check t = new Check();
        ordinary(t);
        wrongInputs(t);
        mostCommonShares(t);
        t.end();
    }

    private static void ordinary(Check t) {
        StableSale x = new StableSale();
        x.preferred(10, 100, 0, 0, 100, 1);
        x.issue(0, 0, 100, 10);
        x.issue(1, 1, 100, 10);
        x.issue(0, 2, 50, 5);
        t.due(9000, x.conversion(1));
        // 9 * 10 / 9 and 8 * 10 / 9
        t.due(10, x.convert(1, 1, 9));
        t.due(8, x.convert(1, 1, 8));
        t.due(18, x.held(0, 1));
        t.due(83, x.held(1, 1));
        t.due(83, x.inIssue(1));
        t.due(168, x.inIssue(0));
        t.due(9000, x.conversion(1));
        t.due(92, x.convert(1, 1, 83));
        t.due(0, x.inIssue(1));
    }

    private static void wrongInputs(Check t) {
        StableSale x = new StableSale();
        x.preferred(10, 100, 0, 0, 100, 0);
        x.issue(0, 0, 10, 10);
        x.issue(1, 1, 10, 10);
        t.throwsMissing(() -> x.convert(0, 0, 1));
        t.throwsMissing(() -> x.convert(-1, 1, 1));
        t.throwsMissing(() -> x.convert(2, 1, 1));
        t.throwsMissing(() -> x.convert(1, 8, 1));
        t.throwsMissing(() -> x.convert(1, -1, 1));
        t.throwsMissing(() -> x.convert(1, 8, 0));
        t.throwsArgument(() -> x.convert(1, 1, 0));
        t.throwsArgument(() -> x.convert(1, 0, -3));
        t.throwsState(() -> x.convert(1, 1, 11));
        t.throwsState(() -> x.convert(1, 0, 1));
        t.throwsState(() -> x.convert(1, 1, Integer.MAX_VALUE));
        t.due(10, x.inIssue(1));
        t.due(10, x.inIssue(0));
        t.due(2, x.undo());
    }

    private static void mostCommonShares(Check t) {
        StableSale x = new StableSale();
        x.preferred(1000, 100, 0, 0, 100, 2);
        x.issue(1, 1, 1000, 1000);
        x.issue(0, 0, 1000, 1);
        t.throwsState(() -> x.convert(1, 1, 20));
        t.throwsState(() -> x.convert(1, 1, 1000));
        t.due(19000, x.convert(1, 1, 19));
        t.due(20000, x.inIssue(0));
        t.throwsState(() -> x.convert(1, 1, 1));
        t.due(981, x.inIssue(1));
    }
}
