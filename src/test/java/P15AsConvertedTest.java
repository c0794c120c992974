public final class P15AsConvertedTest {
    public static void main(String[] args) {
        Check t = new Check();
        sumOfAllClasses(t);
        theMost(t);
        t.end();
    }

    private static void sumOfAllClasses(Check t) {
        StableSale x = new StableSale();
        t.due(0, x.asConverted());
        x.preferred(10, 100, 0, 0, 100, 2);
        x.preferred(7, 100, 0, 0, 100, 2);
        t.due(0, x.asConverted());
        x.issue(0, 0, 5, 10);
        x.issue(1, 0, 10, 10);
        x.issue(2, 0, 10, 10);
        t.due(25, x.asConverted());
        x.issue(0, 0, 1, 3);
        // 6 + 100 / 3 + 70 / 3, each rounded down by itself
        t.due(6 + 33 + 23, x.asConverted());
        x.convert(1, 0, 1);
        t.due(6 + 3 + 30 + 23, x.asConverted());
        x.pool(100);
        x.grant(0, 100, 0, 0);
        t.due(62, x.asConverted());
        x.exercise(0, 1);
        t.due(63, x.asConverted());
    }

    private static void theMost(Check t) {
        StableSale x = new StableSale();
        for (int c = 1; c <= 4; c++) {
            x.preferred(1000, 100, 0, 0, 100, 2);
            for (int i = 0; i < 5; i++) {
                x.issue(c, i, 1000, 1000);
            }
        }
        t.due(20000, x.asConverted());
        x.issue(0, 0, 1, 1);
        t.due(20000001, x.asConverted());
        x.convert(4, 0, 19);
        x.pool(999);
        x.grant(0, 999, 0, 0);
        x.exercise(0, 999);
        x.issue(4, 0, 19, 1);
        t.due(20000 + 20000000, x.asConverted());
    }
}
