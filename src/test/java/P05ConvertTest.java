public final class P05ConvertTest {
    public static void main(String[] args) {
        Check t = new Check();
        ordinary(t);
        boundsOfEachNumber(t);
        asManyAsTheHolderHas(t);
        twentyThousandCommonShares(t);
        theLastOneFits(t);
        missingGoesBeforeWrongAndThisBeforeTooMany(t);
        t.end();
    }

    private static void ordinary(Check t) {
        StableSale x = new StableSale();
        x.preferred(10, 100, 0, 0, 100, 1);
        x.issue(0, 0, 100, 10);
        x.issue(1, 1, 100, 10);
        x.issue(0, 2, 50, 5);
        t.due(9000, x.conversion(1));
        // 9 * 10 / 9 and 8 * 10 / 9
        t.due(10, x.convert(1, 1, 9));
        t.due(8, x.convert(1, 1, 8));
        t.due(18, x.held(0, 1));
        t.due(83, x.held(1, 1));
        t.due(83, x.inIssue(1));
        t.due(168, x.inIssue(0));
        t.due(9000, x.conversion(1));
        t.due(92, x.convert(1, 1, 83));
        t.due(0, x.inIssue(1));
    }

    private static StableSale begun() {
        StableSale x = new StableSale();
        x.preferred(10, 100, 0, 0, 100, 0);
        x.preferred(20, 100, 0, 0, 100, 0);
        for (int holder = 0; holder < 8; holder++) {
            x.issue(0, holder, 10, 10);
            x.issue(1, holder, 10, 10);
            x.issue(2, holder, 10, 10);
        }
        return x;
    }

    private static void boundsOfEachNumber(Check t) {
        t.elementsFrom(1, 2, c -> begun().convert(c, 1, 1));
        t.elementsFrom(0, 7, holder -> begun().convert(1, holder, 1));
        t.due(1, begun().convert(1, 1, 1));
        t.throwsArgument(() -> begun().convert(1, 1, 0));
        t.throwsArgument(() -> begun().convert(1, 1, -1));
        t.throwsArgument(() -> begun().convert(1, 1, Integer.MIN_VALUE));
    }

    private static void asManyAsTheHolderHas(Check t) {
        StableSale x = begun();
        t.throwsState(() -> x.convert(1, 1, 11));
        t.throwsState(() -> x.convert(1, 1, Integer.MAX_VALUE));
        t.due(9, x.convert(1, 1, 9));
        t.throwsState(() -> x.convert(1, 1, 2));
        t.due(1, x.convert(1, 1, 1));
        t.throwsState(() -> x.convert(1, 1, 1));
        t.due(70, x.inIssue(1));
        t.due(20, x.held(0, 1));
    }

    /** One share of class 1 is a thousand common ones, of which there are so many. */
    private static StableSale thousandfold(int common) {
        StableSale x = new StableSale();
        x.preferred(1000, 100, 0, 0, 100, 2);
        x.preferred(1000, 100, 0, 0, 100, 0);
        x.issue(1, 1, 1000, 1000);
        x.issue(2, 2, 1000, 1000);
        x.issue(0, 0, common, 1);
        return x;
    }

    private static void twentyThousandCommonShares(Check t) {
        t.due(19000, thousandfold(999).convert(1, 1, 19));
        t.due(19000, thousandfold(1000).convert(1, 1, 19));
        StableSale x = thousandfold(1000);
        t.throwsState(() -> x.convert(1, 1, 20));
        t.throwsState(() -> x.convert(1, 1, 1000));
        t.due(19000, x.convert(1, 1, 19));
        t.due(20000, x.inIssue(0));
        t.throwsState(() -> x.convert(1, 1, 1));
        t.throwsState(() -> x.convert(2, 2, 1));
        t.due(981, x.inIssue(1));
        t.due(1000, x.inIssue(2));

        StableSale above = thousandfold(1000);
        above.issue(0, 0, 1, 1);
        t.throwsState(() -> above.convert(1, 1, 19));
        t.due(18000, above.convert(1, 1, 18));
    }

    private static void theLastOneFits(Check t) {
        StableSale x = thousandfold(1);
        t.due(19000, x.convert(1, 1, 19));
        t.throwsState(() -> x.convert(1, 1, 1));
        t.throwsState(() -> x.convert(2, 2, 1000));
        t.due(998, x.convert(2, 2, 998));
        t.due(19999, x.inIssue(0));
        t.throwsState(() -> x.convert(2, 2, 2));
        t.due(1, x.convert(2, 2, 1));
        t.due(20000, x.inIssue(0));
        t.throwsState(() -> x.convert(2, 2, 1));
    }

    private static void missingGoesBeforeWrongAndThisBeforeTooMany(Check t) {
        StableSale x = begun();
        t.throwsMissing(() -> x.convert(0, 0, 1));
        t.throwsMissing(() -> x.convert(0, 0, 0));
        t.throwsMissing(() -> x.convert(3, 0, 11));
        t.throwsMissing(() -> x.convert(1, 8, 0));
        t.throwsMissing(() -> x.convert(1, -1, 11));
        t.throwsArgument(() -> x.convert(1, 0, 0));
        t.throwsState(() -> x.convert(1, 0, 11));
        t.due(80, x.inIssue(0));
        t.due(80, x.inIssue(1));
    }
}
