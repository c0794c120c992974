public final class P09LeaveTest {
    public static void main(String[] args) {
        Check t = new Check();
        StableSale x = new StableSale();
        x.pool(1000);
        x.grant(0, 100, 0, 10);
        x.grant(0, 100, 5, 10);
        x.grant(0, 100, 0, 0);
        x.grant(1, 100, 0, 10);
        x.pass(4);
        x.exercise(0, 15);
        // 40, none and all are vested
        t.due(2, x.leave(0));
        t.due(40, x.vested(0));
        t.due(0, x.vested(1));
        t.due(100, x.vested(2));
        t.due(40, x.vested(3));
        t.due(240, x.granted());
        t.due(0, x.leave(0));
        t.due(0, x.leave(5));

        x.pass(60);
        t.due(40, x.vested(0));
        t.due(0, x.vested(1));
        t.due(100, x.vested(3));
        t.due(0, x.leave(0));
        t.due(0, x.leave(1));
        t.due(240, x.granted());

        t.due(4, x.grant(0, 50, 0, 10));
        x.pass(1);
        t.due(5, x.vested(4));
        t.due(1, x.leave(0));
        t.due(245, x.granted());
        x.pass(9);
        t.due(5, x.vested(4));
        t.due(0, x.exercise(0, 25));
        t.throwsState(() -> x.exercise(0, 1));
        t.due(40, x.held(0, 0));

        t.throwsMissing(() -> x.leave(-1));
        t.throwsMissing(() -> x.leave(8));
        t.throwsMissing(() -> x.leave(Integer.MAX_VALUE));
        t.end();
    }
}
