public final class P11VestedTest {
    public static void main(String[] args) {
        Check t = new Check();
        whichGrantsThereAre(t);
        monthByMonth(t);
        exercisedOnesAreCounted(t);
        t.end();
    }

    private static StableSale granted(int count) {
        StableSale x = new StableSale();
        x.pool(100);
        for (int g = 0; g < count; g++) {
            x.grant(g % 8, g + 1, 0, 0);
        }
        return x;
    }

    private static void whichGrantsThereAre(Check t) {
        for (int g = -1; g <= 10; g++) {
            int number = g;
            t.throwsMissing(() -> granted(0).vested(number));
        }
        t.elementsFrom(0, 0, g -> granted(1).vested(g));
        t.elementsFrom(0, 4, g -> granted(5).vested(g));
        t.elementsFrom(0, 9, g -> granted(10).vested(g));
        StableSale x = granted(10);
        for (int g = 0; g < 10; g++) {
            t.due(g + 1, x.vested(g));
        }
    }

    private static void monthByMonth(Check t) {
        StableSale x = new StableSale();
        x.pool(5000);
        x.pass(7);
        x.grant(0, 100, 3, 7);
        x.grant(1, 100, 0, 0);
        x.grant(2, 100, 5, 5);
        x.grant(3, 100, 0, 60);
        int[] first = {0, 0, 0, 42, 57, 71, 85, 100, 100};
        int[] third = {0, 0, 0, 0, 0, 100, 100, 100, 100};
        for (int m = 0; m < first.length; m++) {
            t.due(first[m], x.vested(0));
            t.due(100, x.vested(1));
            t.due(third[m], x.vested(2));
            t.due(100 * m / 60, x.vested(3));
            x.pass(1);
        }
        x.pass(50);
        t.due(98, x.vested(3));
        x.pass(1);
        t.due(100, x.vested(3));
        x.pass(1);
        t.due(100, x.vested(3));
    }

    private static void exercisedOnesAreCounted(Check t) {
        StableSale x = new StableSale();
        x.pool(100);
        x.grant(0, 100, 0, 10);
        x.pass(5);
        x.exercise(0, 49);
        t.due(50, x.vested(0));
        x.exercise(0, 1);
        t.due(50, x.vested(0));
        x.pass(1);
        t.due(60, x.vested(0));
        x.leave(0);
        t.due(60, x.vested(0));
    }
}
