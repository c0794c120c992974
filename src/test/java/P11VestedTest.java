public final class P11VestedTest {
    public static void main(String[] args) {
        Check t = new Check();
        StableSale x = new StableSale();
        x.pool(5000);
        x.pass(7);
        x.grant(0, 100, 3, 7);
        x.grant(1, 100, 0, 0);
        x.grant(2, 100, 5, 5);
        x.grant(3, 100, 0, 60);
        int[] first = {0, 0, 0, 42, 57, 71, 85, 100, 100};
        int[] third = {0, 0, 0, 0, 0, 100, 100, 100, 100};
        for (int m = 0; m < first.length; m++) {
            t.due(first[m], x.vested(0));
            t.due(100, x.vested(1));
            t.due(third[m], x.vested(2));
            t.due(100 * m / 60, x.vested(3));
            x.pass(1);
        }
        x.exercise(0, 60);
        t.due(100, x.vested(0));
        x.pass(50);
        t.due(98, x.vested(3));
        x.pass(1);
        t.due(100, x.vested(3));

        t.throwsMissing(() -> x.vested(4));
        t.throwsMissing(() -> x.vested(-1));
        t.throwsMissing(() -> x.vested(10));
        t.throwsMissing(() -> x.vested(Integer.MAX_VALUE));
        t.end();
    }
}
