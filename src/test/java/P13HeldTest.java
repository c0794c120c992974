public final class P13HeldTest {
    public static void main(String[] args) {
        Check t = new Check();
        StableSale x = new StableSale();
        x.preferred(10, 100, 0, 0, 100, 0);
        x.preferred(10, 100, 0, 0, 100, 0);
        for (int c = 0; c <= 2; c++) {
            for (int holder = 0; holder < 8; holder++) {
                x.issue(c, holder, 100 * (c + 1) + holder, 10);
            }
        }
        for (int c = 0; c <= 2; c++) {
            for (int holder = 0; holder < 8; holder++) {
                t.due(100 * (c + 1) + holder, x.held(c, holder));
            }
        }
        t.throwsMissing(() -> x.held(3, 0));
        t.throwsMissing(() -> x.held(-1, 0));
        t.throwsMissing(() -> x.held(0, 8));
        t.throwsMissing(() -> x.held(0, -1));
        t.throwsMissing(() -> x.held(Integer.MIN_VALUE, Integer.MAX_VALUE));
        t.end();
    }
}
