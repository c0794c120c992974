public final class P19BringsTest {
    public static void main(String[] args) {
        Check t = new Check();
        boundsOfEachNumber(t);
        wrongAmountGoesBeforeAMissingHolder(t);
        leastAndGreatestAmount(t);
        byShares(t);
        byTheSet(t);
        noSet(t);
        t.end();
    }

    private static void boundsOfEachNumber(Check t) {
        t.argumentFrom(0, 2000000000, amount -> new StableSale().brings(amount, 0));
        t.elementsFrom(0, 7, holder -> new StableSale().brings(0, holder));
        t.elementsFrom(0, 7, holder -> Stable.withoutSet().brings(925, holder));
        // Though there is no set, there must be the holder.
        t.elementsFrom(0, 7, holder -> Stable.withoutSet().brings(926, holder));
    }

    private static void wrongAmountGoesBeforeAMissingHolder(Check t) {
        StableSale x = new StableSale();
        t.throwsArgument(() -> x.brings(-1, 8));
        t.throwsArgument(() -> x.brings(2000000001, -1));
        t.throwsMissing(() -> x.brings(0, -1));
        t.throwsMissing(() -> x.brings(2000000000, 8));
    }

    private static void leastAndGreatestAmount(Check t) {
        StableSale x = new StableSale();
        x.issue(0, 0, 1, 1);
        x.issue(0, 7, 1, 1);
        Parts.broughtDue(t, x, 0, 0, 0, 0, 0, 0, 0, 0, 0);
        Parts.broughtDue(t, x, 1, 1, 0, 0, 0, 0, 0, 0, 0);
        Parts.broughtDue(t, x, 1999999999, 1000000000, 0, 0, 0, 0, 0, 0, 999999999);
        Parts.broughtDue(t, x, 2000000000, 1000000000, 0, 0, 0, 0, 0, 0, 1000000000);
    }

    private static void byShares(Check t) {
        StableSale x = new StableSale();
        Parts.broughtDue(t, x, 10, 0, 0, 0, 0, 0, 0, 0, 0);
        x.issue(0, 0, 1, 1);
        x.issue(0, 1, 1, 1);
        x.issue(0, 7, 1, 1);
        Parts.broughtDue(t, x, 10, 4, 3, 0, 0, 0, 0, 0, 3);
        Parts.broughtDue(t, x, 11, 4, 4, 0, 0, 0, 0, 0, 3);
        x.issue(0, 7, 4, 1);
        Parts.broughtDue(t, x, 10, 2, 1, 0, 0, 0, 0, 0, 7);

        StableSale two = new StableSale();
        two.preferred(1, 100, 0, 0, 100, 0);
        two.issue(0, 0, 1, 1);
        two.issue(0, 1, 2, 1);
        two.issue(1, 1, 1, 1);
        two.issue(1, 2, 2, 1);
        Parts.broughtDue(t, two, 310, 3, 107, 200, 0);
        Parts.broughtDue(t, two, 301, 0, 101, 200, 0);
        Parts.broughtDue(t, two, 100, 0, 33, 67, 0);
        Parts.broughtDue(t, two, 2000000000, 333333333, 1000000000, 666666667, 0);
    }

    private static void byTheSet(Check t) {
        StableSale x = new StableSale();
        x.preferred(10, 100, 0, 0, 100, 0);
        x.issue(0, 0, 100, 10);
        x.issue(1, 1, 100, 10);
        Parts.broughtDue(t, x, 100, 0, 100);
        Parts.broughtDue(t, x, 150000, 50000, 100000);
        Parts.broughtDue(t, x, 200001, 100001, 100000);
        Parts.broughtDue(t, x, 200002, 100001, 100001);
        Parts.broughtDue(t, x, 900000, 450000, 450000);
        x.transfer(1, 1, 0, 25);
        Parts.broughtDue(t, x, 150000, 75000, 75000);
        Parts.broughtDue(t, x, 900000, 562500, 337500);
    }

    private static void noSet(Check t) {
        StableSale x = Stable.withoutSet();
        for (int holder = 0; holder < 8; holder++) {
            t.due(StableSale.NONE, x.brings(926, holder));
        }
        Parts.broughtDue(t, x, 925, 0, 370, 555, 0);
        t.due(x.gets(927, x.set(927), 1), x.brings(927, 1));
    }
}
