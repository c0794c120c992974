public final class P10ExerciseTest {
    public static void main(String[] args) {
        Check t = new Check();
        ordinary(t);
        boundsOfEachNumber(t);
        asManyAsAreVestedAndNotExercised(t);
        twentyThousandCommonShares(t);
        missingGoesBeforeWrongAndThisBeforeTooMany(t);
        t.end();
    }

    private static void ordinary(Check t) {
        StableSale x = new StableSale();
        x.preferred(10, 100, 0, 0, 100, 2);
        x.issue(1, 0, 10, 10);
        x.pool(100);
        x.grant(3, 100, 0, 10);
        x.pass(2);
        t.due(15, x.exercise(0, 5));
        t.due(0, x.exercise(0, 15));
        x.pass(1);
        t.due(9, x.exercise(0, 1));
        t.due(21, x.held(0, 3));
        t.due(21, x.inIssue(0));
        t.due(30, x.vested(0));
        t.due(100, x.granted());
        t.due(31, x.asConverted());
        // It is no round.
        t.due(10000, x.conversion(1));
    }

    private static StableSale granted(int count) {
        StableSale x = new StableSale();
        x.pool(100);
        for (int g = 0; g < count; g++) {
            x.grant(0, 10, 0, 0);
        }
        return x;
    }

    private static void boundsOfEachNumber(Check t) {
        for (int g = -1; g <= 10; g++) {
            int number = g;
            t.throwsMissing(() -> granted(0).exercise(number, 1));
        }
        t.elementsFrom(0, 0, g -> granted(1).exercise(g, 1));
        t.elementsFrom(0, 4, g -> granted(5).exercise(g, 1));
        t.elementsFrom(0, 9, g -> granted(10).exercise(g, 1));
        t.due(9, granted(1).exercise(0, 1));
        t.throwsArgument(() -> granted(1).exercise(0, 0));
        t.throwsArgument(() -> granted(1).exercise(0, -1));
        t.throwsArgument(() -> granted(1).exercise(0, Integer.MIN_VALUE));
    }

    private static void asManyAsAreVestedAndNotExercised(Check t) {
        t.due(1, granted(1).exercise(0, 9));
        t.due(0, granted(1).exercise(0, 10));
        t.throwsState(() -> granted(1).exercise(0, 11));
        t.throwsState(() -> granted(1).exercise(0, Integer.MAX_VALUE));

        StableSale x = new StableSale();
        x.pool(100);
        x.grant(3, 100, 2, 10);
        x.pass(1);
        t.throwsState(() -> x.exercise(0, 1));
        x.pass(1);
        t.throwsState(() -> x.exercise(0, 21));
        t.due(1, x.exercise(0, 19));
        t.throwsState(() -> x.exercise(0, 2));
        t.due(0, x.exercise(0, 1));
        t.throwsState(() -> x.exercise(0, 1));
        x.pass(1);
        t.throwsState(() -> x.exercise(0, 11));
        t.due(0, x.exercise(0, 10));
        t.due(30, x.held(0, 3));
    }

    /** 19000 common shares and so many more, and 1000 vested options. */
    private static StableSale nearTheMost(int more) {
        StableSale x = new StableSale();
        x.preferred(1000, 100, 0, 0, 100, 2);
        x.issue(1, 1, 1000, 1000);
        x.issue(0, 0, more, 1);
        x.convert(1, 1, 19);
        x.pool(2000);
        x.grant(2, 1000, 0, 0);
        return x;
    }

    private static void twentyThousandCommonShares(Check t) {
        StableSale x = nearTheMost(500);
        t.throwsState(() -> x.exercise(0, 501));
        t.throwsState(() -> x.exercise(0, 1000));
        // How many more could, as vested ones: the most of common shares is looked at when they do.
        t.due(501, x.exercise(0, 499));
        t.due(19999, x.inIssue(0));
        t.throwsState(() -> x.exercise(0, 2));
        t.due(500, x.exercise(0, 1));
        t.due(20000, x.inIssue(0));
        t.throwsState(() -> x.exercise(0, 1));
        t.due(500, x.held(0, 2));

        t.due(501, nearTheMost(501).exercise(0, 499));
        t.throwsState(() -> nearTheMost(501).exercise(0, 500));
        t.due(500, nearTheMost(500).exercise(0, 500));
        t.due(500, nearTheMost(499).exercise(0, 500));
    }

    private static void missingGoesBeforeWrongAndThisBeforeTooMany(Check t) {
        StableSale x = granted(1);
        t.throwsMissing(() -> x.exercise(1, 0));
        t.throwsMissing(() -> x.exercise(-1, 11));
        t.throwsMissing(() -> x.exercise(10, 1));
        t.throwsArgument(() -> x.exercise(0, 0));
        t.due(0, x.inIssue(0));
        t.due(0, x.exercise(0, 10));
        t.throwsArgument(() -> x.exercise(0, 0));
    }
}
