public final class P16ConversionTest {
    public static void main(String[] args) {
        Check t = new Check();
        whichPreferredClassesThereAre(t);
        asRoundsChangeIt(t);
        t.end();
    }

    private static StableSale withClasses(int count) {
        StableSale x = new StableSale();
        for (int c = 1; c <= count; c++) {
            x.preferred(10 * c, 100, 0, 0, 100, 0);
        }
        return x;
    }

    private static void whichPreferredClassesThereAre(Check t) {
        for (int c = -1; c <= 5; c++) {
            int number = c;
            t.throwsMissing(() -> withClasses(0).conversion(number));
        }
        for (int count = 1; count <= 4; count++) {
            int n = count;
            // The common class, 0, has no conversion price.
            t.elementsFrom(1, n, c -> withClasses(n).conversion(c));
            t.due(10000 * n, withClasses(n).conversion(n));
        }
    }

    private static void asRoundsChangeIt(Check t) {
        StableSale x = new StableSale();
        x.preferred(7, 100, 0, 0, 100, 2);
        x.preferred(1000, 100, 0, 0, 100, 1);
        t.due(7000, x.conversion(1));
        t.due(1000000, x.conversion(2));
        x.issue(0, 0, 10, 1);
        t.due(7000, x.conversion(1));
        x.issue(1, 0, 10, 7);
        x.issue(2, 0, 10, 1000);
        x.issue(0, 0, 10, 3);
        t.due(3000, x.conversion(1));
        // (1000000 * 30 + 3000 * 10) / 40
        t.due(750750, x.conversion(2));
        x.undo();
        t.due(7000, x.conversion(1));
        t.due(1000000, x.conversion(2));
    }
}
