/** 'Terms', a sale: to share out an amount by weights, among classes and among holders. */
public final class T07SharingOutTest {
    public static void main(String[] args) {
        Check t = new Check();
        equalRemaindersAmongClasses(t);
        greatestRemaindersAmongClasses(t);
        equalRemaindersAmongPreferences(t);
        equalRemaindersAmongHolders(t);
        greatestRemaindersAmongHolders(t);
        whoHasNoWeightGetsNothing(t);
        greatNumbers(t);
        t.end();
    }

    /** All classes convert, so that their shares are the weights. */
    private static StableSale byShares(int... shares) {
        StableSale x = new StableSale();
        for (int c = 0; c < shares.length; c++) {
            if (c > 0) {
                x.preferred(1, 100, 0, 0, 100, 0);
            }
            if (shares[c] > 0) {
                x.issue(c, c, shares[c], 1);
            }
        }
        return x;
    }

    private static void equalRemaindersAmongClasses(Check t) {
        StableSale x = byShares(1, 1, 1, 1, 1);
        Parts.due(t, x, 0, 15, 0, 0, 0, 0, 0, 0);
        Parts.due(t, x, 1, 15, 0, 1, 0, 0, 0, 0);
        Parts.due(t, x, 2, 15, 0, 1, 1, 0, 0, 0);
        Parts.due(t, x, 4, 15, 0, 1, 1, 1, 1, 0);
        Parts.due(t, x, 5, 15, 0, 1, 1, 1, 1, 1);
        Parts.due(t, x, 6, 15, 0, 2, 1, 1, 1, 1);
        Parts.due(t, x, 9, 15, 0, 2, 2, 2, 2, 1);
    }

    private static void greatestRemaindersAmongClasses(Check t) {
        StableSale x = byShares(1, 2, 4);
        int[][] due = {
            {0, 0, 0}, {0, 0, 1}, {0, 1, 1}, {0, 1, 2}, {1, 1, 2}, {1, 1, 3}, {1, 2, 3}, {1, 2, 4}, {1, 2, 5},
        };
        for (int amount = 0; amount < due.length; amount++) {
            Parts.due(t, x, amount, 3, 0, due[amount][0], due[amount][1], due[amount][2]);
        }
        StableSale turned = byShares(4, 2, 1);
        for (int amount = 0; amount < due.length; amount++) {
            Parts.due(t, turned, amount, 3, 0, due[amount][2], due[amount][1], due[amount][0]);
        }
    }

    private static void equalRemaindersAmongPreferences(Check t) {
        StableSale x = byShares(1, 1, 1, 1, 1);
        Parts.due(t, x, 1, 0, 0, 0, 1, 0, 0, 0);
        Parts.due(t, x, 3, 0, 0, 0, 1, 1, 1, 0);
        Parts.due(t, x, 4, 0, 0, 0, 1, 1, 1, 1);
        Parts.due(t, x, 399, 0, 0, 0, 100, 100, 100, 99);
        Parts.due(t, x, 1, 1, 0, 0, 0, 1, 0, 0);
        Parts.due(t, x, 1, 3, 0, 0, 0, 0, 1, 0);
    }

    private static void equalRemaindersAmongHolders(Check t) {
        StableSale x = new StableSale();
        for (int holder = 0; holder < 8; holder++) {
            x.issue(0, holder, 1, 1);
        }
        Parts.broughtDue(t, x, 0, 0, 0, 0, 0, 0, 0, 0, 0);
        Parts.broughtDue(t, x, 1, 1, 0, 0, 0, 0, 0, 0, 0);
        Parts.broughtDue(t, x, 7, 1, 1, 1, 1, 1, 1, 1, 0);
        Parts.broughtDue(t, x, 8, 1, 1, 1, 1, 1, 1, 1, 1);
        Parts.broughtDue(t, x, 9, 2, 1, 1, 1, 1, 1, 1, 1);
        Parts.broughtDue(t, x, 15, 2, 2, 2, 2, 2, 2, 2, 1);
    }

    private static void greatestRemaindersAmongHolders(Check t) {
        StableSale x = new StableSale();
        x.issue(0, 2, 1, 1);
        x.issue(0, 5, 2, 1);
        x.issue(0, 7, 4, 1);
        Parts.broughtDue(t, x, 1, 0, 0, 0, 0, 0, 0, 0, 1);
        Parts.broughtDue(t, x, 2, 0, 0, 0, 0, 0, 1, 0, 1);
        Parts.broughtDue(t, x, 3, 0, 0, 0, 0, 0, 1, 0, 2);
        Parts.broughtDue(t, x, 4, 0, 0, 1, 0, 0, 1, 0, 2);
        Parts.broughtDue(t, x, 6, 0, 0, 1, 0, 0, 2, 0, 3);
        Parts.broughtDue(t, x, 7, 0, 0, 1, 0, 0, 2, 0, 4);
        Parts.broughtDue(t, x, 8, 0, 0, 1, 0, 0, 2, 0, 5);
    }

    private static void whoHasNoWeightGetsNothing(Check t) {
        Parts.due(t, byShares(0, 1, 1), 3, 3, 0, 0, 2, 1);
        Parts.due(t, byShares(1, 0, 1), 3, 2, 0, 2, 0, 1);
        Parts.due(t, byShares(1, 1, 0), 3, 1, 0, 2, 1, 0);
        StableSale one = new StableSale();
        one.issue(0, 7, 1, 1);
        Parts.broughtDue(t, one, 1, 0, 0, 0, 0, 0, 0, 0, 1);
        Parts.broughtDue(t, one, 2000000000, 0, 0, 0, 0, 0, 0, 0, 2000000000);
    }

    private static void greatNumbers(Check t) {
        StableSale thirds = byShares(1000, 1000, 1000);
        Parts.due(t, thirds, 2000000000, 3, 0, 666666667, 666666667, 666666666);
        Parts.due(t, thirds, 1999999999, 3, 0, 666666667, 666666666, 666666666);
        Parts.due(t, thirds, 1999999998, 3, 0, 666666666, 666666666, 666666666);

        StableSale heavy = new StableSale();
        for (int c = 1; c <= 4; c++) {
            heavy.preferred(1000, 300, 0, 0, 100, 2);
            for (int i = 0; i < 5; i++) {
                heavy.issue(c, 0, 1000, 1000);
            }
        }
        // Each preference is 1500000000; a quarter of the amount each.
        Parts.due(t, heavy, 1999999999, 0, 0, 0, 500000000, 500000000, 500000000, 499999999);
        heavy.issue(0, 7, 1, 1);
        // 20000001 weights: 99.99.. for the common share, 499999975.0.. for each class
        Parts.due(t, heavy, 2000000000, 15, 0, 100, 499999975, 499999975, 499999975, 499999975);
    }
}
