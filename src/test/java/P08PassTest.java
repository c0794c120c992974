public final class P08PassTest {
    public static void main(String[] args) {
        Check t = new Check();
        StableSale x = new StableSale();
        t.due(0, x.pass(0));
        t.due(1, x.pass(1));
        t.due(61, x.pass(60));
        t.throwsArgument(() -> x.pass(61));
        t.throwsArgument(() -> x.pass(-1));
        t.throwsArgument(() -> x.pass(Integer.MAX_VALUE));
        t.throwsArgument(() -> x.pass(Integer.MIN_VALUE));
        t.due(61, x.pass(0));
        t.due(3, x.undo());
        t.due(2, x.undo());
        t.due(3, x.pass(2));

        StableSale old = new StableSale();
        old.pool(100);
        old.grant(0, 100, 60, 60);
        for (int i = 1; i <= 505; i++) {
            t.due(60 * i, old.pass(60));
        }
        t.due(100, old.vested(0));
        t.end();
    }
}
