public final class P12GrantedTest {
    public static void main(String[] args) {
        Check t = new Check();
        StableSale x = new StableSale();
        t.due(0, x.granted());
        x.pool(500);
        t.due(0, x.granted());
        x.grant(0, 100, 0, 10);
        x.grant(1, 200, 0, 10);
        t.due(300, x.granted());
        x.pass(3);
        t.due(300, x.granted());
        x.exercise(0, 30);
        t.due(300, x.granted());
        x.leave(0);
        t.due(230, x.granted());
        x.leave(1);
        t.due(90, x.granted());
        x.grant(0, 410, 5, 5);
        t.due(500, x.granted());
        x.undo();
        x.undo();
        t.due(230, x.granted());
        t.end();
    }
}
