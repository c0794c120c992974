public final class P10ExerciseTest {
    public static void main(String[] args) {
        Check t = new Check();
        ordinary(t);
        wrongInputs(t);
        mostCommonShares(t);
        t.end();
    }

    private static void ordinary(Check t) {
        StableSale x = new StableSale();
        x.preferred(10, 100, 0, 0, 100, 2);
        x.issue(1, 0, 10, 10);
        x.pool(100);
        x.grant(3, 100, 2, 10);
        x.pass(1);
        t.throwsState(() -> x.exercise(0, 1));
        x.pass(1);
        t.throwsState(() -> x.exercise(0, 21));
        t.due(15, x.exercise(0, 5));
        t.due(0, x.exercise(0, 15));
        t.throwsState(() -> x.exercise(0, 1));
        x.pass(1);
        t.due(9, x.exercise(0, 1));
        t.due(21, x.held(0, 3));
        t.due(21, x.inIssue(0));
        t.due(30, x.vested(0));
        t.due(100, x.granted());
        t.due(31, x.asConverted());
        t.due(10000, x.conversion(1));
    }

    private static void wrongInputs(Check t) {
        StableSale x = new StableSale();
        t.throwsMissing(() -> x.exercise(0, 1));
        x.pool(10);
        x.grant(0, 10, 0, 0);
        t.throwsMissing(() -> x.exercise(1, 1));
        t.throwsMissing(() -> x.exercise(-1, 1));
        t.throwsMissing(() -> x.exercise(10, 0));
        t.throwsArgument(() -> x.exercise(0, 0));
        t.throwsArgument(() -> x.exercise(0, Integer.MIN_VALUE));
        t.throwsState(() -> x.exercise(0, 11));
        t.throwsState(() -> x.exercise(0, Integer.MAX_VALUE));
        t.due(0, x.inIssue(0));
        t.due(0, x.exercise(0, 10));
    }

    private static void mostCommonShares(Check t) {
        StableSale x = new StableSale();
        x.preferred(1000, 100, 0, 0, 100, 2);
        x.issue(1, 1, 1000, 1000);
        x.issue(0, 0, 500, 1);
        x.convert(1, 1, 19);
        x.pool(2000);
        x.grant(2, 1000, 0, 0);
        t.throwsState(() -> x.exercise(0, 501));
        t.due(500, x.exercise(0, 500));
        t.due(20000, x.inIssue(0));
        t.throwsState(() -> x.exercise(0, 1));
    }
}
