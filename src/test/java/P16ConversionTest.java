public final class P16ConversionTest {
    public static void main(String[] args) {
        Check t = new Check();
        StableSale x = new StableSale();
        t.throwsMissing(() -> x.conversion(0));
        t.throwsMissing(() -> x.conversion(1));
        x.preferred(7, 100, 0, 0, 100, 2);
        x.preferred(1000, 100, 0, 0, 100, 1);
        t.due(7000, x.conversion(1));
        t.due(1000000, x.conversion(2));
        t.throwsMissing(() -> x.conversion(0));
        t.throwsMissing(() -> x.conversion(3));
        t.throwsMissing(() -> x.conversion(-1));
        t.throwsMissing(() -> x.conversion(5));
        x.issue(0, 0, 10, 1);
        t.due(7000, x.conversion(1));
        x.issue(1, 0, 10, 7);
        x.issue(2, 0, 10, 1000);
        x.issue(0, 0, 10, 3);
        t.due(3000, x.conversion(1));
        // (1000000 * 30 + 3000 * 10) / 40
        t.due(750750, x.conversion(2));
        x.undo();
        t.due(7000, x.conversion(1));
        t.due(1000000, x.conversion(2));
        t.end();
    }
}
