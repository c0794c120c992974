public final class P06PoolTest {
    public static void main(String[] args) {
        Check t = new Check();
        StableSale x = new StableSale();
        t.due(0, x.pool(100));
        t.due(100, x.pool(5000));
        t.due(5000, x.pool(0));
        t.throwsArgument(() -> x.pool(-1));
        t.throwsArgument(() -> x.pool(5001));
        t.throwsArgument(() -> x.pool(Integer.MAX_VALUE));
        t.throwsArgument(() -> x.pool(Integer.MIN_VALUE));
        t.due(0, x.pool(50));
        x.grant(0, 30, 10, 10);
        t.throwsArgument(() -> x.pool(29));
        t.due(50, x.pool(30));
        t.throwsState(() -> x.grant(1, 1, 0, 0));
        x.leave(0);
        t.due(30, x.pool(0));
        t.due(0, x.pool(10));
        x.grant(1, 10, 0, 0);
        x.exercise(1, 10);
        t.throwsArgument(() -> x.pool(9));
        t.due(10, x.pool(10));
        t.due(7, x.undo());
        t.due(10, x.inIssue(0));
        t.end();
    }
}
