public final class P07GrantTest {
    public static void main(String[] args) {
        Check t = new Check();
        boundsOfEachNumber(t);
        lengthIsNotLessThanTheCliff(t);
        noMoreThanThePool(t);
        noMoreThanTen(t);
        missingGoesBeforeWrongAndThisBeforeTooMany(t);
        optionsAreNoShares(t);
        t.end();
    }

    private static StableSale withPool(int shares) {
        StableSale x = new StableSale();
        x.pool(shares);
        return x;
    }

    private static void boundsOfEachNumber(Check t) {
        t.elementsFrom(0, 7, holder -> withPool(5000).grant(holder, 1, 0, 0));
        t.argumentFrom(1, 2000, shares -> withPool(5000).grant(0, shares, 0, 0));
        t.argumentFrom(0, 60, cliff -> withPool(5000).grant(0, 1, cliff, 60));
        t.argumentFrom(0, 60, length -> withPool(5000).grant(0, 1, 0, length));
        t.argumentFrom(0, 60, both -> withPool(5000).grant(0, 1, both, both));
    }

    private static void lengthIsNotLessThanTheCliff(Check t) {
        for (int cliff : new int[] {1, 2, 30, 59}) {
            t.throwsArgument(() -> withPool(10).grant(0, 1, cliff, cliff - 1));
            t.throwsArgument(() -> withPool(10).grant(0, 1, cliff, 0));
            t.due(0, withPool(10).grant(0, 1, cliff, cliff));
            t.due(0, withPool(10).grant(0, 1, cliff, cliff + 1));
        }
        t.throwsArgument(() -> withPool(10).grant(0, 1, 60, 59));
        t.throwsArgument(() -> withPool(10).grant(0, 1, 60, 61));
        t.throwsArgument(() -> withPool(10).grant(0, 1, 61, 61));
        t.throwsArgument(() -> withPool(10).grant(0, 1, -1, -1));
        t.throwsArgument(() -> withPool(10).grant(0, 1, -2, -1));
        t.throwsArgument(() -> withPool(10).grant(0, 1, -1, 0));
        t.throwsArgument(() -> withPool(10).grant(0, 1, 0, -1));
    }

    private static void noMoreThanThePool(Check t) {
        t.throwsState(() -> new StableSale().grant(0, 1, 0, 0));
        t.throwsState(() -> withPool(0).grant(0, 1, 0, 0));
        t.due(0, withPool(1).grant(0, 1, 0, 0));
        t.throwsState(() -> withPool(1).grant(0, 2, 0, 0));
        t.throwsState(() -> withPool(1999).grant(0, 2000, 0, 0));
        t.due(0, withPool(2000).grant(0, 2000, 0, 0));

        StableSale x = withPool(10);
        t.throwsState(() -> x.grant(0, 11, 0, 0));
        t.due(0, x.grant(0, 6, 0, 0));
        t.throwsState(() -> x.grant(0, 5, 0, 0));
        x.exercise(0, 6);
        t.throwsState(() -> x.grant(0, 5, 0, 0));
        t.due(1, x.grant(1, 4, 10, 10));
        t.throwsState(() -> x.grant(0, 1, 0, 0));
        x.leave(1);
        t.due(2, x.grant(1, 4, 10, 10));
        t.due(10, x.granted());
        x.pool(11);
        t.due(3, x.grant(1, 1, 10, 10));
    }

    private static void noMoreThanTen(Check t) {
        StableSale x = withPool(5000);
        for (int g = 0; g < 10; g++) {
            t.due(g, x.grant(g % 8, 1, 5, 5));
        }
        t.throwsState(() -> x.grant(0, 1, 0, 0));
        t.due(10, x.granted());
        for (int holder = 0; holder < 8; holder++) {
            x.leave(holder);
        }
        t.due(0, x.granted());
        // Grants of which nothing is granted any more are still the ten.
        t.throwsState(() -> x.grant(0, 1, 0, 0));
        for (int i = 0; i < 8; i++) {
            x.undo();
        }
        t.due(10, x.granted());
        t.throwsState(() -> x.grant(0, 1, 0, 0));
    }

    private static void missingGoesBeforeWrongAndThisBeforeTooMany(Check t) {
        StableSale x = withPool(5);
        t.throwsMissing(() -> x.grant(8, 0, 5, 4));
        t.throwsMissing(() -> x.grant(-1, 6, 0, 0));
        t.throwsArgument(() -> x.grant(0, 2001, 0, 0));
        t.throwsArgument(() -> x.grant(0, 6, 5, 4));
        t.throwsState(() -> x.grant(0, 6, 0, 0));
        t.due(0, x.granted());
        t.throwsMissing(() -> x.vested(0));
        for (int g = 0; g < 5; g++) {
            t.due(g, x.grant(0, 1, 0, 0));
        }
        t.throwsArgument(() -> x.grant(0, 0, 0, 0));
        t.throwsMissing(() -> x.grant(8, 1, 0, 0));
    }

    private static void optionsAreNoShares(Check t) {
        StableSale x = withPool(5000);
        x.grant(0, 2000, 0, 0);
        t.due(0, x.inIssue(0));
        t.due(0, x.held(0, 0));
        t.due(0, x.asConverted());
    }
}
