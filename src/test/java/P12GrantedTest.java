public final class P12GrantedTest {
    public static void main(String[] args) {
        Check t = new Check();
        StableSale x = new StableSale();
        t.due(0, x.granted());
        x.pool(500);
        t.due(0, x.granted());
        x.grant(0, 100, 0, 10);
        t.due(100, x.granted());
        x.grant(1, 200, 0, 10);
        t.due(300, x.granted());
        t.throwsState(() -> x.grant(1, 201, 0, 10));
        t.due(300, x.granted());
        x.pass(3);
        t.due(300, x.granted());
        x.exercise(0, 30);
        t.due(300, x.granted());
        x.leave(0);
        t.due(230, x.granted());
        x.leave(1);
        t.due(90, x.granted());
        x.grant(0, 410, 5, 5);
        t.due(500, x.granted());
        x.undo();
        x.undo();
        t.due(230, x.granted());
        theLeastAndTheMost(t);
        t.end();
    }

    private static void theLeastAndTheMost(Check t) {
        StableSale x = new StableSale();
        x.pool(5000);
        for (int g = 0; g < 9; g++) {
            x.grant(7, 500, 1, 1);
        }
        t.due(4500, x.granted());
        x.grant(6, 499, 1, 1);
        t.due(4999, x.granted());
        x.undo();
        x.grant(6, 500, 1, 1);
        t.due(5000, x.granted());
        x.leave(7);
        t.due(500, x.granted());
        x.leave(6);
        t.due(0, x.granted());
    }
}
