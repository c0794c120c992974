/** 'Terms', a sale: the rest, by weights and up to a most. */
public final class T06RestTest {
    public static void main(String[] args) {
        Check t = new Check();
        whoHasWeight(t);
        weightsAreAsConverted(t);
        partBelowOnAndAboveTheMost(t);
        aMostOfNothing(t);
        capBelowOnAndAboveTheMultiple(t);
        oneUnitAboveTheMostByARemainder(t);
        oneIsAboveOnlyBehindAnother(t);
        bothAreAboveAtOnce(t);
        whoConvertsHasNoMost(t);
        greatestMost(t);
        greatRestRoundTheMost(t);
        noWeights(t);
        noWeightsAreLeft(t);
        t.end();
    }

    private static void whoHasWeight(Check t) {
        StableSale x = new StableSale();
        x.preferred(1, 100, 0, 0, 900, 0);
        x.preferred(1, 100, 0, 1, 900, 0);
        x.preferred(1, 100, 0, 2, 900, 0);
        x.preferred(1, 100, 0, 1, 900, 0);
        for (int c = 0; c <= 3; c++) {
            x.issue(c, c, 1, 1);
        }
        // Class 4 is not in issue; the plain class 1 shares when it converts alone.
        Parts.due(t, x, 303, 0, 0, 1, 100, 101, 101, 0);
        Parts.due(t, x, 304, 0, 0, 2, 100, 101, 101, 0);
        Parts.due(t, x, 204, 1, 0, 1, 1, 101, 101, 0);
        Parts.due(t, x, 203, 2, 0, 1, 100, 1, 101, 0);
        Parts.due(t, x, 203, 4, 0, 1, 100, 101, 1, 0);
        Parts.due(t, x, 4, 7, 0, 1, 1, 1, 1, 0);
    }

    private static void weightsAreAsConverted(Check t) {
        StableSale x = new StableSale();
        x.preferred(3, 100, 0, 1, 100, 2);
        x.issue(1, 1, 5, 3);
        x.issue(0, 0, 10, 2);
        // 5 shares are 7 of 7 1/2 common ones.
        Parts.due(t, x, 1500 + 16, 0, 0, 9, 1500 + 7);
        Parts.due(t, x, 1500 + 17, 0, 0, 10, 1500 + 7);
        Parts.due(t, x, 1500 + 18, 0, 0, 11, 1500 + 7);
        Parts.due(t, x, 17, 1, 0, 10, 7);
    }

    /** One common share beside one of a class with a preference of 100 units by such a cap. */
    private static StableSale capped(int cap) {
        StableSale x = new StableSale();
        x.preferred(1, 100, 0, 2, cap, 0);
        x.issue(0, 0, 1, 1);
        x.issue(1, 1, 1, 1);
        return x;
    }

    private static void partBelowOnAndAboveTheMost(Check t) {
        StableSale x = capped(200);
        Parts.due(t, x, 100 + 198, 0, 0, 99, 199);
        Parts.due(t, x, 100 + 199, 0, 0, 100, 199);
        Parts.due(t, x, 100 + 200, 0, 0, 100, 200);
        // A part of 100 1/2 is 100, rounded down, which is not above.
        Parts.due(t, x, 100 + 201, 0, 0, 101, 200);
        Parts.due(t, x, 100 + 202, 0, 0, 102, 200);
        Parts.due(t, x, 100 + 203, 0, 0, 103, 200);
    }

    private static void aMostOfNothing(Check t) {
        StableSale x = capped(100);
        Parts.due(t, x, 99, 0, 0, 0, 99);
        Parts.due(t, x, 100, 0, 0, 0, 100);
        Parts.due(t, x, 101, 0, 0, 1, 100);
        Parts.due(t, x, 102, 0, 0, 2, 100);
        Parts.due(t, x, 103, 0, 0, 3, 100);
    }

    private static void capBelowOnAndAboveTheMultiple(Check t) {
        int[] most = {0, 0, 1};
        for (int i = 0; i < 3; i++) {
            StableSale x = new StableSale();
            x.preferred(1, 150, 0, 2, 149 + i, 0);
            x.issue(0, 0, 1, 1);
            x.issue(1, 1, 1, 1);
            Parts.due(t, x, 149, 0, 0, 0, 149);
            Parts.due(t, x, 150, 0, 0, 0, 150);
            Parts.due(t, x, 152, 0, 0, 2 - most[i], 150 + most[i]);
            Parts.due(t, x, 250, 0, 0, 100 - most[i], 150 + most[i]);
        }
        StableSale farBelow = new StableSale();
        farBelow.preferred(1, 300, 0, 2, 100, 0);
        farBelow.issue(0, 0, 1, 1);
        farBelow.issue(1, 1, 1, 1);
        Parts.due(t, farBelow, 302, 0, 0, 2, 300);
    }

    private static void oneUnitAboveTheMostByARemainder(Check t) {
        StableSale x = new StableSale();
        x.preferred(1, 100, 0, 2, 200, 0);
        x.issue(0, 0, 1, 1);
        x.issue(1, 1, 2, 1);
        Parts.due(t, x, 200 + 299, 0, 0, 100, 399);
        Parts.due(t, x, 200 + 300, 0, 0, 100, 400);
        // 200 2/3, rounded down, is not above the most of 200; the unit that is left goes to the greater remainder.
        Parts.due(t, x, 200 + 301, 0, 0, 100, 401);
        Parts.due(t, x, 200 + 302, 0, 0, 102, 400);

        StableSale nothing = new StableSale();
        nothing.preferred(1, 100, 0, 2, 100, 0);
        nothing.issue(0, 0, 1, 1);
        nothing.issue(1, 1, 2, 1);
        Parts.due(t, nothing, 200, 0, 0, 0, 200);
        Parts.due(t, nothing, 201, 0, 0, 0, 201);
        Parts.due(t, nothing, 202, 0, 0, 2, 200);
    }

    private static void oneIsAboveOnlyBehindAnother(Check t) {
        for (int wide = 1; wide <= 2; wide++) {
            int narrow = 3 - wide;
            StableSale x = new StableSale();
            x.preferred(1, 100, 0, 2, wide == 1 ? 300 : 150, 0);
            x.preferred(1, 100, 0, 2, wide == 2 ? 300 : 150, 0);
            for (int c = 0; c <= 2; c++) {
                x.issue(c, c, 1, 1);
            }
            int[] rests = {149, 150, 153, 450, 451, 452, 454};
            int[] commonGets = {50, 50, 52, 200, 201, 202, 204};
            int[] wideGets = {wide == 1 ? 50 : 49, 50, 51, 200, 200, 200, 200};
            int[] narrowGets = {wide == 1 ? 49 : 50, 50, 50, 50, 50, 50, 50};
            for (int i = 0; i < rests.length; i++) {
                t.due(commonGets[i], x.gets(200 + rests[i], 0, 0));
                t.due(100 + wideGets[i], x.gets(200 + rests[i], 0, wide));
                t.due(100 + narrowGets[i], x.gets(200 + rests[i], 0, narrow));
                t.due(0, x.gets(200 + rests[i], 0, StableSale.NONE));
            }
        }
    }

    private static void bothAreAboveAtOnce(Check t) {
        StableSale x = new StableSale();
        x.preferred(1, 100, 0, 2, 110, 0);
        x.preferred(1, 100, 0, 2, 120, 0);
        for (int c = 0; c <= 2; c++) {
            x.issue(c, c, 1, 1);
        }
        Parts.due(t, x, 200 + 60, 0, 0, 30, 110, 120);
        Parts.due(t, x, 200 + 63, 0, 0, 33, 110, 120);
        Parts.due(t, x, 200 + 3000, 0, 0, 2970, 110, 120);
    }

    private static void whoConvertsHasNoMost(Check t) {
        StableSale x = capped(200);
        Parts.due(t, x, 10000, 0, 0, 9800, 200);
        Parts.due(t, x, 10000, 1, 0, 5000, 5000);
    }

    private static void greatestMost(Check t) {
        StableSale x = new StableSale();
        x.preferred(1000, 50, 0, 2, 900, 0);
        x.issue(0, 0, 1, 1000);
        for (int i = 0; i < 5; i++) {
            x.issue(1, 1, 1000, 1000);
        }
        // Its most, 4250000000 units, is above every amount. 1750000000 / 5001 = 349930.01..
        Parts.due(t, x, 2000000000, 0, 0, 349930, 1999650070);

        StableSale two = new StableSale();
        two.preferred(1000, 50, 0, 2, 400, 0);
        for (int i = 0; i < 5; i++) {
            two.issue(1, 1, 1000, 1000);
        }
        Parts.due(t, two, 1999999999, 0, 0, 0, 1999999999);
        Parts.due(t, two, 2000000000, 0, 0, 0, 2000000000);
    }

    private static void greatRestRoundTheMost(Check t) {
        StableSale x = new StableSale();
        x.preferred(1000, 50, 0, 2, 900, 0);
        x.issue(0, 0, 1000, 1000);
        x.issue(1, 1, 1000, 1000);
        // A preference of 50000000 units and a most of 850000000
        Parts.due(t, x, 1749999999, 0, 0, 850000000, 899999999);
        Parts.due(t, x, 1750000000, 0, 0, 850000000, 900000000);
        Parts.due(t, x, 1750000001, 0, 0, 850000001, 900000000);
        Parts.due(t, x, 1750000002, 0, 0, 850000002, 900000000);
        Parts.due(t, x, 2000000000, 0, 0, 1100000000, 900000000);
    }

    private static void noWeights(Check t) {
        StableSale empty = new StableSale();
        Parts.due(t, empty, 0, 0, 0, 0);
        Parts.due(t, empty, 1, 0, 1, 0);
        Parts.due(t, empty, 2000000000, 0, 2000000000, 0);

        StableSale plain = new StableSale();
        plain.preferred(1, 100, 0, 0, 100, 0);
        plain.issue(1, 1, 1, 1);
        Parts.due(t, plain, 99, 0, 0, 0, 99);
        Parts.due(t, plain, 100, 0, 0, 0, 100);
        Parts.due(t, plain, 101, 0, 1, 0, 100);
        Parts.due(t, plain, 101, 1, 0, 0, 101);
        plain.issue(0, 0, 1, 1);
        Parts.due(t, plain, 101, 0, 0, 1, 100);
    }

    private static void noWeightsAreLeft(Check t) {
        StableSale x = new StableSale();
        x.preferred(1, 100, 0, 2, 110, 0);
        x.preferred(1, 100, 0, 2, 120, 0);
        x.issue(1, 1, 1, 1);
        x.issue(2, 2, 1, 1);
        Parts.due(t, x, 200 + 29, 0, 0, 0, 110, 119);
        Parts.due(t, x, 200 + 30, 0, 0, 0, 110, 120);
        Parts.due(t, x, 200 + 31, 0, 1, 0, 110, 120);
        Parts.due(t, x, 200 + 32, 0, 2, 0, 110, 120);
        Parts.due(t, x, 100 + 32, 1, 0, 0, 16, 116);
    }
}
