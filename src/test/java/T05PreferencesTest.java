/** 'Terms', a sale: preferences, rank by rank. */
public final class T05PreferencesTest {
    public static void main(String[] args) {
        Check t = new Check();
        leastPreference(t);
        greatestPreference(t);
        byTheMultiple(t);
        rankByRank(t);
        notEnoughForAllOfARank(t);
        nothingIsLeftForTheRest(t);
        noneForAClassThatIsNotInIssue(t);
        noneForAClassThatConverts(t);
        t.end();
    }

    private static void leastPreference(Check t) {
        StableSale x = new StableSale();
        x.preferred(1, 50, 0, 0, 100, 0);
        x.issue(0, 0, 1, 1);
        x.issue(1, 1, 1, 1);
        Parts.due(t, x, 0, 0, 0, 0, 0);
        Parts.due(t, x, 1, 0, 0, 0, 1);
        Parts.due(t, x, 49, 0, 0, 0, 49);
        Parts.due(t, x, 50, 0, 0, 0, 50);
        Parts.due(t, x, 51, 0, 0, 1, 50);
    }

    private static void greatestPreference(Check t) {
        StableSale x = new StableSale();
        x.preferred(1000, 300, 3, 0, 100, 0);
        x.issue(0, 0, 1, 1000);
        for (int i = 0; i < 5; i++) {
            x.issue(1, 1, 1000, 1000);
        }
        Parts.due(t, x, 1499999999, 0, 0, 0, 1499999999);
        Parts.due(t, x, 1500000000, 0, 0, 0, 1500000000);
        Parts.due(t, x, 1500000001, 0, 0, 1, 1500000000);
        Parts.due(t, x, 1999999999, 0, 0, 499999999, 1500000000);
        Parts.due(t, x, 2000000000, 0, 0, 500000000, 1500000000);
    }

    private static void byTheMultiple(Check t) {
        for (int multiple : new int[] {50, 51, 299, 300}) {
            StableSale x = new StableSale();
            x.preferred(2, multiple, 0, 0, 100, 0);
            x.issue(0, 0, 1, 1);
            x.issue(1, 1, 3, 1);
            Parts.due(t, x, 6 * multiple - 1, 0, 0, 0, 6 * multiple - 1);
            Parts.due(t, x, 6 * multiple, 0, 0, 0, 6 * multiple);
            Parts.due(t, x, 6 * multiple + 1, 0, 0, 1, 6 * multiple);
        }
    }

    private static void rankByRank(Check t) {
        StableSale x = new StableSale();
        x.preferred(1, 100, 3, 0, 100, 0);
        x.preferred(1, 200, 2, 0, 100, 0);
        x.preferred(1, 300, 1, 0, 100, 0);
        x.preferred(2, 200, 0, 0, 100, 0);
        for (int c = 0; c <= 4; c++) {
            x.issue(c, 0, 1, 2);
        }
        Parts.due(t, x, 399, 0, 0, 0, 0, 0, 0, 399);
        Parts.due(t, x, 400, 0, 0, 0, 0, 0, 0, 400);
        Parts.due(t, x, 401, 0, 0, 0, 0, 0, 1, 400);
        Parts.due(t, x, 699, 0, 0, 0, 0, 0, 299, 400);
        Parts.due(t, x, 700, 0, 0, 0, 0, 0, 300, 400);
        Parts.due(t, x, 701, 0, 0, 0, 0, 1, 300, 400);
        Parts.due(t, x, 899, 0, 0, 0, 0, 199, 300, 400);
        Parts.due(t, x, 900, 0, 0, 0, 0, 200, 300, 400);
        Parts.due(t, x, 901, 0, 0, 0, 1, 200, 300, 400);
        Parts.due(t, x, 999, 0, 0, 0, 99, 200, 300, 400);
        Parts.due(t, x, 1000, 0, 0, 0, 100, 200, 300, 400);
        Parts.due(t, x, 1001, 0, 0, 1, 100, 200, 300, 400);
    }

    /** Preferences of 1000 and 500 units in one rank, and one of 1000 behind them. */
    private static StableSale twoInOneRank() {
        StableSale x = new StableSale();
        x.preferred(1, 100, 1, 0, 100, 0);
        x.preferred(1, 50, 1, 0, 100, 0);
        x.preferred(1, 100, 2, 1, 100, 0);
        for (int c = 0; c <= 3; c++) {
            x.issue(c, 0, 10, 1);
        }
        return x;
    }

    private static void notEnoughForAllOfARank(Check t) {
        StableSale x = twoInOneRank();
        Parts.due(t, x, 0, 0, 0, 0, 0, 0, 0);
        // 2/3 and 1/3, 1 1/3 and 2/3, 2 and 1
        Parts.due(t, x, 1, 0, 0, 0, 1, 0, 0);
        Parts.due(t, x, 2, 0, 0, 0, 1, 1, 0);
        Parts.due(t, x, 3, 0, 0, 0, 2, 1, 0);
        // 998 2/3 and 499 1/3, 999 1/3 and 499 2/3
        Parts.due(t, x, 1498, 0, 0, 0, 999, 499, 0);
        Parts.due(t, x, 1499, 0, 0, 0, 999, 500, 0);
        Parts.due(t, x, 1500, 0, 0, 0, 1000, 500, 0);
        Parts.due(t, x, 1501, 0, 0, 0, 1000, 500, 1);
    }

    private static void nothingIsLeftForTheRest(Check t) {
        StableSale x = twoInOneRank();
        Parts.due(t, x, 2499, 0, 0, 0, 1000, 500, 999);
        Parts.due(t, x, 2500, 0, 0, 0, 1000, 500, 1000);
        // The odd unit is a half for each of the two that share.
        Parts.due(t, x, 2501, 0, 0, 1, 1000, 500, 1000);
        Parts.due(t, x, 2502, 0, 0, 1, 1000, 500, 1001);
    }

    private static void noneForAClassThatIsNotInIssue(Check t) {
        StableSale x = new StableSale();
        x.preferred(1, 100, 0, 0, 100, 0);
        x.preferred(1, 100, 1, 0, 100, 0);
        x.issue(0, 0, 1, 1);
        Parts.due(t, x, 150, 0, 0, 150, 0, 0);
        x.issue(2, 2, 1, 1);
        Parts.due(t, x, 150, 0, 0, 50, 0, 100);
        x.issue(1, 1, 1, 1);
        Parts.due(t, x, 150, 0, 0, 0, 100, 50);
        x.convert(1, 1, 1);
        Parts.due(t, x, 150, 0, 0, 50, 0, 100);
    }

    private static void noneForAClassThatConverts(Check t) {
        StableSale x = new StableSale();
        x.preferred(1, 100, 0, 0, 100, 0);
        x.preferred(1, 100, 1, 0, 100, 0);
        for (int c = 0; c <= 2; c++) {
            x.issue(c, c, 1, 1);
        }
        Parts.due(t, x, 99, 0, 0, 0, 99, 0);
        Parts.due(t, x, 99, 1, 0, 0, 0, 99);
        Parts.due(t, x, 99, 2, 0, 0, 99, 0);
        Parts.due(t, x, 99, 3, 0, 33, 33, 33);
        Parts.due(t, x, 102, 1, 0, 1, 1, 100);
        Parts.due(t, x, 102, 2, 0, 1, 100, 1);
    }
}
