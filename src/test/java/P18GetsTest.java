public final class P18GetsTest {
    public static void main(String[] args) {
        Check t = new Check();
        wrongInputs(t);
        rankByRank(t);
        whatStaysWithTheCompany(t);
        kindsAndTheRest(t);
        capsOneBehindTheOther(t);
        weightsAreAsConverted(t);
        oneShare(t);
        greatNumbers(t);
        t.end();
    }

    private static void wrongInputs(Check t) {
        StableSale x = new StableSale();
        x.preferred(10, 100, 0, 0, 100, 0);
        x.preferred(10, 100, 0, 0, 100, 0);
        x.issue(2, 0, 10, 10);
        t.throwsArgument(() -> x.gets(-1, 0, 0));
        t.throwsArgument(() -> x.gets(2000000001, 0, 0));
        t.throwsArgument(() -> x.gets(Integer.MIN_VALUE, 0, 0));
        t.throwsArgument(() -> x.gets(5, 1, 2));
        t.throwsArgument(() -> x.gets(5, 3, 2));
        t.throwsArgument(() -> x.gets(5, 4, 2));
        t.throwsArgument(() -> x.gets(5, 16, 2));
        t.throwsArgument(() -> x.gets(5, 32, 2));
        t.throwsArgument(() -> x.gets(5, -1, 2));
        t.throwsArgument(() -> x.gets(5, -16, 2));
        t.throwsArgument(() -> x.gets(5, 2 + 16, 2));
        t.throwsArgument(() -> x.gets(5, Integer.MIN_VALUE, 2));
        t.throwsMissing(() -> x.gets(5, 0, 3));
        t.throwsMissing(() -> x.gets(5, 0, -2));
        t.throwsMissing(() -> x.gets(5, 0, 5));
        t.throwsMissing(() -> x.gets(5, 0, Integer.MAX_VALUE));
        t.throwsArgument(() -> x.gets(-1, 0, 3));
        t.throwsArgument(() -> x.gets(5, 4, 3));
        t.due(0, x.gets(5, 2, 1));
        t.due(0, x.gets(5, 0, 0));
        t.due(5, x.gets(5, 2, 2));

        StableSale four = new StableSale();
        for (int c = 1; c <= 4; c++) {
            four.preferred(10, 100, 0, 0, 100, 0);
            four.issue(c, 0, 10, 10);
        }
        t.throwsArgument(() -> four.gets(5, -1, 0));
        t.throwsArgument(() -> four.gets(5, 16, 0));
        t.throwsArgument(() -> four.gets(5, 31, 0));
        t.due(0, four.gets(5, 15, 0));
    }

    private static void due(Check t, StableSale x, int amount, int set, int... parts) {
        for (int i = 0; i < parts.length; i++) {
            t.due(parts[i], x.gets(amount, set, i - 1));
        }
    }

    private static void rankByRank(Check t) {
        StableSale x = new StableSale();
        x.preferred(1, 100, 1, 0, 100, 0);
        x.preferred(2, 150, 0, 0, 100, 0);
        x.preferred(1, 50, 1, 0, 100, 0);
        x.issue(0, 0, 5, 10);
        x.issue(1, 1, 10, 10);
        x.issue(2, 2, 10, 10);
        x.issue(3, 3, 10, 10);
        due(t, x, 0, 0, 0, 0, 0, 0, 0);
        due(t, x, 2999, 0, 0, 0, 0, 2999, 0);
        due(t, x, 3000, 0, 0, 0, 0, 3000, 0);
        due(t, x, 3001, 0, 0, 0, 1, 3000, 0);
        due(t, x, 3002, 0, 0, 0, 1, 3000, 1);
        due(t, x, 4499, 0, 0, 0, 999, 3000, 500);
        due(t, x, 4500, 0, 0, 0, 1000, 3000, 500);
        due(t, x, 4507, 0, 0, 7, 1000, 3000, 500);
        due(t, x, 1515, 2, 0, 5, 1000, 10, 500);
        due(t, x, 1516, 2, 0, 5, 1000, 11, 500);
        due(t, x, 1514, 2, 0, 5, 1000, 9, 500);
        due(t, x, 1499, 2, 0, 0, 999, 0, 500);
        // 3 * 5 / 35, 3 * 10 / 35: the greatest remainders, of equal ones the less numbers
        due(t, x, 3, 7, 0, 0, 1, 1, 1);
        due(t, x, 2, 7, 0, 0, 1, 1, 0);

        StableSale last = new StableSale();
        last.preferred(1, 100, 3, 0, 100, 0);
        last.preferred(1, 100, 2, 0, 100, 0);
        last.issue(1, 0, 1, 1);
        last.issue(2, 0, 1, 1);
        due(t, last, 150, 0, 0, 0, 50, 100);
    }

    private static void whatStaysWithTheCompany(Check t) {
        StableSale x = new StableSale();
        due(t, x, 12, 0, 12, 0);
        x.preferred(1, 100, 0, 0, 100, 0);
        due(t, x, 12, 0, 12, 0, 0);
        x.issue(1, 0, 10, 1);
        due(t, x, 999, 0, 0, 0, 999);
        due(t, x, 1000, 0, 0, 0, 1000);
        due(t, x, 1500, 0, 500, 0, 1000);
        due(t, x, 1500, 1, 0, 0, 1500);

        StableSale capped = new StableSale();
        capped.preferred(1, 100, 0, 2, 200, 0);
        capped.issue(1, 0, 10, 1);
        due(t, capped, 2000, 0, 0, 0, 2000);
        due(t, capped, 2001, 0, 1, 0, 2000);
        due(t, capped, 2500, 0, 500, 0, 2000);
        due(t, capped, 2500, 1, 0, 0, 2500);

        StableSale capBelow = new StableSale();
        capBelow.preferred(1, 300, 0, 2, 100, 0);
        capBelow.issue(1, 0, 10, 1);
        due(t, capBelow, 4000, 0, 1000, 0, 3000);
    }

    private static void kindsAndTheRest(Check t) {
        StableSale x = new StableSale();
        x.preferred(1, 100, 0, 0, 900, 0);
        x.preferred(1, 100, 0, 1, 100, 0);
        x.preferred(1, 100, 0, 2, 300, 0);
        x.issue(0, 0, 10, 1);
        x.issue(1, 0, 10, 1);
        x.issue(2, 0, 10, 1);
        x.issue(3, 0, 10, 1);
        due(t, x, 3000 + 3000, 0, 0, 1000, 1000, 2000, 2000);
        due(t, x, 3000 + 3001, 0, 0, 1001, 1000, 2000, 2000);
        due(t, x, 3000 + 6000, 0, 0, 2000, 1000, 3000, 3000);
        due(t, x, 3000 + 9000, 0, 0, 3500, 1000, 4500, 3000);
        due(t, x, 2000 + 8000, 1, 0, 2000, 2000, 3000, 3000);
        due(t, x, 2000 + 9000, 1, 0, 2334, 2333, 3333, 3000);
        due(t, x, 2000 + 8000, 4, 0, 2667, 1000, 3667, 2666);
    }

    private static void capsOneBehindTheOther(Check t) {
        StableSale x = new StableSale();
        x.preferred(1, 100, 0, 2, 300, 0);
        x.preferred(1, 100, 0, 2, 150, 0);
        x.issue(0, 0, 10, 1);
        x.issue(1, 0, 10, 1);
        x.issue(2, 0, 10, 1);
        due(t, x, 2000 + 1500, 0, 0, 500, 1500, 1500);
        due(t, x, 2000 + 4500, 0, 0, 2000, 3000, 1500);
        due(t, x, 2000 + 4501, 0, 0, 2001, 3000, 1500);
        due(t, x, 2000 + 4502, 0, 0, 2002, 3000, 1500);
        due(t, x, 2000 + 5100, 0, 0, 2600, 3000, 1500);
        due(t, x, 2000 + 100000, 0, 0, 97500, 3000, 1500);
    }

    private static void weightsAreAsConverted(Check t) {
        StableSale x = new StableSale();
        x.preferred(3, 100, 0, 1, 100, 2);
        x.issue(1, 0, 5, 3);
        x.issue(0, 0, 10, 2);
        t.due(2000, x.conversion(1));
        // 5 * 3 / 2 = 7 shares against 10
        due(t, x, 1500 + 1700, 0, 0, 1000, 1500 + 700);
        due(t, x, 1700, 1, 0, 1000, 700);
        due(t, x, 1701, 1, 0, 1001, 700);
    }

    private static void oneShare(Check t) {
        StableSale x = new StableSale();
        x.issue(0, 0, 1, 1);
        due(t, x, 7, 0, 0, 7);

        StableSale capped = new StableSale();
        capped.preferred(1, 100, 0, 2, 200, 0);
        capped.issue(1, 0, 1, 1);
        due(t, capped, 150, 0, 0, 0, 150);
        due(t, capped, 300, 0, 100, 0, 200);
        due(t, capped, 300, 1, 0, 0, 300);
    }

    private static void greatNumbers(Check t) {
        StableSale x = new StableSale();
        for (int c = 1; c <= 4; c++) {
            x.preferred(1000, 300, 0, 2, 900, 2);
            for (int i = 0; i < 5; i++) {
                x.issue(c, i, 1000, 1000);
            }
        }
        due(t, x, 2000000000, 0, 0, 0, 500000000, 500000000, 500000000, 500000000);
        due(t, x, 1999999998, 0, 0, 0, 500000000, 500000000, 499999999, 499999999);
        x.issue(0, 0, 1, 1);
        due(t, x, 2000000000, 15, 0, 100, 499999975, 499999975, 499999975, 499999975);
        due(t, x, 2000000000, 14, 0, 25, 1624999994, 124999994, 124999994, 124999993);
    }
}
