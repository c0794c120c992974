public final class P19BringsTest {
    public static void main(String[] args) {
        Check t = new Check();
        wrongInputs(t);
        byShares(t);
        byTheSet(t);
        noSet(t);
        t.end();
    }

    private static void wrongInputs(Check t) {
        StableSale x = new StableSale();
        t.throwsArgument(() -> x.brings(-1, 0));
        t.throwsArgument(() -> x.brings(2000000001, 0));
        t.throwsMissing(() -> x.brings(0, -1));
        t.throwsMissing(() -> x.brings(2000000000, 8));
        t.throwsArgument(() -> x.brings(-1, 8));
        t.throwsArgument(() -> x.brings(Integer.MAX_VALUE, Integer.MAX_VALUE));
        StableSale none = Stable.withoutSet();
        t.throwsMissing(() -> none.brings(926, 8));
    }

    private static void due(Check t, StableSale x, int amount, int... parts) {
        for (int holder = 0; holder < parts.length; holder++) {
            t.due(parts[holder], x.brings(amount, holder));
        }
    }

    private static void byShares(Check t) {
        StableSale x = new StableSale();
        due(t, x, 10, 0, 0, 0, 0, 0, 0, 0, 0);
        x.issue(0, 0, 1, 1);
        x.issue(0, 1, 1, 1);
        x.issue(0, 7, 1, 1);
        due(t, x, 10, 4, 3, 0, 0, 0, 0, 0, 3);
        due(t, x, 11, 4, 4, 0, 0, 0, 0, 0, 3);
        x.issue(0, 7, 4, 1);
        due(t, x, 10, 2, 1, 0, 0, 0, 0, 0, 7);

        StableSale two = new StableSale();
        two.preferred(1, 100, 0, 0, 100, 0);
        two.issue(0, 0, 1, 1);
        two.issue(0, 1, 2, 1);
        two.issue(1, 1, 1, 1);
        two.issue(1, 2, 2, 1);
        due(t, two, 310, 3, 107, 200, 0);
        due(t, two, 301, 0, 101, 200, 0);
        due(t, two, 100, 0, 33, 67, 0);
        due(t, two, 2000000000, 333333333, 1000000000, 666666667, 0);
    }

    private static void byTheSet(Check t) {
        StableSale x = new StableSale();
        x.preferred(10, 100, 0, 0, 100, 0);
        x.issue(0, 0, 100, 10);
        x.issue(1, 1, 100, 10);
        due(t, x, 100, 0, 100);
        due(t, x, 150000, 50000, 100000);
        due(t, x, 200001, 100001, 100000);
        due(t, x, 200002, 100001, 100001);
        due(t, x, 900000, 450000, 450000);
        x.transfer(1, 1, 0, 25);
        due(t, x, 150000, 75000, 75000);
        due(t, x, 900000, 562500, 337500);
    }

    private static void noSet(Check t) {
        StableSale x = Stable.withoutSet();
        for (int holder = 0; holder < 8; holder++) {
            t.due(StableSale.NONE, x.brings(926, holder));
        }
        due(t, x, 925, 0, 370, 555, 0);
    }
}
