public final class P18GetsTest {
    public static void main(String[] args) {
        Check t = new Check();
        boundsOfTheAmount(t);
        boundsOfTheClass(t);
        setsOfClassesInIssue(t);
        wrongNumbersGoBeforeAMissingClass(t);
        rankByRank(t);
        whatStaysWithTheCompany(t);
        kindsAndTheRest(t);
        capsOneBehindTheOther(t);
        weightsAreAsConverted(t);
        oneShare(t);
        greatNumbers(t);
        t.end();
    }

    /** Class 2 of three is in issue. */
    private static StableSale secondOfThree() {
        StableSale x = new StableSale();
        for (int c = 1; c <= 3; c++) {
            x.preferred(10, 100, 0, 0, 100, 0);
        }
        x.issue(2, 0, 10, 10);
        return x;
    }

    private static void boundsOfTheAmount(Check t) {
        t.argumentFrom(0, 2000000000, amount -> secondOfThree().gets(amount, 0, 2));
        t.argumentFrom(0, 2000000000, amount -> secondOfThree().gets(amount, 2, StableSale.NONE));
    }

    private static void boundsOfTheClass(Check t) {
        t.elementsFrom(StableSale.NONE, 3, c -> secondOfThree().gets(5, 0, c));
        t.elementsFrom(StableSale.NONE, 0, c -> new StableSale().gets(5, 0, c));
        StableSale x = secondOfThree();
        // A class that is not in issue is there, and gets nothing.
        t.due(0, x.gets(5, 0, 1));
        t.due(5, x.gets(5, 0, 2));
        t.due(0, x.gets(5, 0, 3));
        t.due(0, x.gets(5, 0, 0));
    }

    private static void setsOfClassesInIssue(Check t) {
        StableSale x = secondOfThree();
        for (int set = -20; set <= 40; set++) {
            int converts = set;
            if (set == 0 || set == 2) {
                t.due(5, x.gets(5, set, 2));
            } else {
                t.throwsArgument(() -> x.gets(5, converts, 2));
            }
        }
        StableSale four = new StableSale();
        for (int c = 1; c <= 4; c++) {
            four.preferred(10, 100, 0, 0, 100, 0);
            four.issue(c, 0, 10, 10);
        }
        t.argumentFrom(0, 15, set -> four.gets(5, set, 0));
        t.throwsArgument(() -> four.gets(5, 31, 0));
        t.throwsArgument(() -> four.gets(5, 1 << 31 | 15, 0));
        four.convert(4, 0, 10);
        t.argumentFrom(0, 7, set -> four.gets(5, set, 4));
        t.argumentFrom(0, 0, set -> new StableSale().gets(5, set, 0));
    }

    private static void wrongNumbersGoBeforeAMissingClass(Check t) {
        StableSale x = secondOfThree();
        t.throwsArgument(() -> x.gets(-1, 0, 4));
        t.throwsArgument(() -> x.gets(2000000001, 0, -2));
        t.throwsArgument(() -> x.gets(5, 1, 4));
        t.throwsArgument(() -> x.gets(5, 8, 5));
        t.throwsArgument(() -> x.gets(5, 1, StableSale.NONE));
        t.throwsMissing(() -> x.gets(5, 2, 4));
        t.throwsMissing(() -> x.gets(5, 2, -2));
    }

    private static void rankByRank(Check t) {
        StableSale x = new StableSale();
        x.preferred(1, 100, 1, 0, 100, 0);
        x.preferred(2, 150, 0, 0, 100, 0);
        x.preferred(1, 50, 1, 0, 100, 0);
        x.issue(0, 0, 5, 10);
        x.issue(1, 1, 10, 10);
        x.issue(2, 2, 10, 10);
        x.issue(3, 3, 10, 10);
        Parts.due(t, x, 0, 0, 0, 0, 0, 0, 0);
        Parts.due(t, x, 2999, 0, 0, 0, 0, 2999, 0);
        Parts.due(t, x, 3000, 0, 0, 0, 0, 3000, 0);
        Parts.due(t, x, 3001, 0, 0, 0, 1, 3000, 0);
        Parts.due(t, x, 3002, 0, 0, 0, 1, 3000, 1);
        Parts.due(t, x, 4499, 0, 0, 0, 999, 3000, 500);
        Parts.due(t, x, 4500, 0, 0, 0, 1000, 3000, 500);
        Parts.due(t, x, 4507, 0, 0, 7, 1000, 3000, 500);
        Parts.due(t, x, 1515, 2, 0, 5, 1000, 10, 500);
        Parts.due(t, x, 1516, 2, 0, 5, 1000, 11, 500);
        Parts.due(t, x, 1514, 2, 0, 5, 1000, 9, 500);
        Parts.due(t, x, 1499, 2, 0, 0, 999, 0, 500);
        // 3 * 5 / 35, 3 * 10 / 35: the greatest remainders, of equal ones the less numbers
        Parts.due(t, x, 3, 7, 0, 0, 1, 1, 1);
        Parts.due(t, x, 2, 7, 0, 0, 1, 1, 0);

        StableSale last = new StableSale();
        last.preferred(1, 100, 3, 0, 100, 0);
        last.preferred(1, 100, 2, 0, 100, 0);
        last.issue(1, 0, 1, 1);
        last.issue(2, 0, 1, 1);
        Parts.due(t, last, 150, 0, 0, 0, 50, 100);
    }

    private static void whatStaysWithTheCompany(Check t) {
        StableSale x = new StableSale();
        Parts.due(t, x, 12, 0, 12, 0);
        x.preferred(1, 100, 0, 0, 100, 0);
        Parts.due(t, x, 12, 0, 12, 0, 0);
        x.issue(1, 0, 10, 1);
        Parts.due(t, x, 999, 0, 0, 0, 999);
        Parts.due(t, x, 1000, 0, 0, 0, 1000);
        Parts.due(t, x, 1500, 0, 500, 0, 1000);
        Parts.due(t, x, 1500, 1, 0, 0, 1500);

        StableSale capped = new StableSale();
        capped.preferred(1, 100, 0, 2, 200, 0);
        capped.issue(1, 0, 10, 1);
        Parts.due(t, capped, 2000, 0, 0, 0, 2000);
        Parts.due(t, capped, 2001, 0, 1, 0, 2000);
        Parts.due(t, capped, 2500, 0, 500, 0, 2000);
        Parts.due(t, capped, 2500, 1, 0, 0, 2500);

        StableSale capBelow = new StableSale();
        capBelow.preferred(1, 300, 0, 2, 100, 0);
        capBelow.issue(1, 0, 10, 1);
        Parts.due(t, capBelow, 4000, 0, 1000, 0, 3000);
    }

    private static void kindsAndTheRest(Check t) {
        StableSale x = new StableSale();
        x.preferred(1, 100, 0, 0, 900, 0);
        x.preferred(1, 100, 0, 1, 100, 0);
        x.preferred(1, 100, 0, 2, 300, 0);
        x.issue(0, 0, 10, 1);
        x.issue(1, 0, 10, 1);
        x.issue(2, 0, 10, 1);
        x.issue(3, 0, 10, 1);
        Parts.due(t, x, 3000 + 3000, 0, 0, 1000, 1000, 2000, 2000);
        Parts.due(t, x, 3000 + 3001, 0, 0, 1001, 1000, 2000, 2000);
        Parts.due(t, x, 3000 + 6000, 0, 0, 2000, 1000, 3000, 3000);
        Parts.due(t, x, 3000 + 9000, 0, 0, 3500, 1000, 4500, 3000);
        Parts.due(t, x, 2000 + 8000, 1, 0, 2000, 2000, 3000, 3000);
        Parts.due(t, x, 2000 + 9000, 1, 0, 2334, 2333, 3333, 3000);
        Parts.due(t, x, 2000 + 8000, 4, 0, 2667, 1000, 3667, 2666);
    }

    private static void capsOneBehindTheOther(Check t) {
        StableSale x = new StableSale();
        x.preferred(1, 100, 0, 2, 300, 0);
        x.preferred(1, 100, 0, 2, 150, 0);
        x.issue(0, 0, 10, 1);
        x.issue(1, 0, 10, 1);
        x.issue(2, 0, 10, 1);
        Parts.due(t, x, 2000 + 1500, 0, 0, 500, 1500, 1500);
        Parts.due(t, x, 2000 + 4500, 0, 0, 2000, 3000, 1500);
        Parts.due(t, x, 2000 + 4501, 0, 0, 2001, 3000, 1500);
        Parts.due(t, x, 2000 + 4502, 0, 0, 2002, 3000, 1500);
        Parts.due(t, x, 2000 + 5100, 0, 0, 2600, 3000, 1500);
        Parts.due(t, x, 2000 + 100000, 0, 0, 97500, 3000, 1500);
    }

    private static void weightsAreAsConverted(Check t) {
        StableSale x = new StableSale();
        x.preferred(3, 100, 0, 1, 100, 2);
        x.issue(1, 0, 5, 3);
        x.issue(0, 0, 10, 2);
        t.due(2000, x.conversion(1));
        // 5 * 3 / 2 = 7 shares against 10
        Parts.due(t, x, 1500 + 1700, 0, 0, 1000, 1500 + 700);
        Parts.due(t, x, 1700, 1, 0, 1000, 700);
        Parts.due(t, x, 1701, 1, 0, 1001, 700);
    }

    private static void oneShare(Check t) {
        StableSale x = new StableSale();
        x.issue(0, 0, 1, 1);
        Parts.due(t, x, 7, 0, 0, 7);

        StableSale capped = new StableSale();
        capped.preferred(1, 100, 0, 2, 200, 0);
        capped.issue(1, 0, 1, 1);
        Parts.due(t, capped, 150, 0, 0, 0, 150);
        Parts.due(t, capped, 300, 0, 100, 0, 200);
        Parts.due(t, capped, 300, 1, 0, 0, 300);
    }

    private static void greatNumbers(Check t) {
        StableSale x = new StableSale();
        for (int c = 1; c <= 4; c++) {
            x.preferred(1000, 300, 0, 2, 900, 2);
            for (int i = 0; i < 5; i++) {
                x.issue(c, i, 1000, 1000);
            }
        }
        Parts.due(t, x, 2000000000, 0, 0, 0, 500000000, 500000000, 500000000, 500000000);
        Parts.due(t, x, 1999999998, 0, 0, 0, 500000000, 500000000, 499999999, 499999999);
        x.issue(0, 0, 1, 1);
        Parts.due(t, x, 2000000000, 15, 0, 100, 499999975, 499999975, 499999975, 499999975);
        Parts.due(t, x, 2000000000, 14, 0, 25, 1624999994, 124999994, 124999994, 124999993);
    }
}
