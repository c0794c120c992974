public final class P01NewObjectTest {
    public static void main(String[] args) {
        Check t = new Check();
        noShares(t);
        noPreferredClasses(t);
        noPool(t);
        monthNothing(t);
        nothingToTakeBack(t);
        aSaleOfNothing(t);
        objectsShareNothing(t);
        t.end();
    }

    private static void noShares(Check t) {
        StableSale x = new StableSale();
        for (int holder = 0; holder < 8; holder++) {
            t.due(0, x.held(0, holder));
        }
        t.due(0, x.inIssue(0));
        t.due(0, x.asConverted());
        t.throwsState(() -> x.transfer(0, 0, 1, 1));
        t.due(1, x.issue(0, 0, 1, 1));
    }

    private static void noPreferredClasses(Check t) {
        StableSale x = new StableSale();
        for (int c = 1; c <= 4; c++) {
            int number = c;
            t.throwsMissing(() -> x.inIssue(number));
            t.throwsMissing(() -> x.conversion(number));
            t.throwsMissing(() -> x.issue(number, 0, 1, 1));
        }
        t.due(1, x.preferred(1, 100, 0, 0, 100, 0));
    }

    private static void noPool(Check t) {
        StableSale x = new StableSale();
        t.due(0, x.granted());
        t.throwsMissing(() -> x.vested(0));
        t.throwsState(() -> x.grant(0, 1, 0, 0));
        t.due(0, x.pool(0));
        t.throwsState(() -> x.grant(0, 1, 0, 0));
        t.due(0, x.pool(1));
        t.due(0, x.grant(0, 1, 0, 0));
    }

    private static void monthNothing(Check t) {
        t.due(0, new StableSale().pass(0));
        t.due(1, new StableSale().pass(1));
    }

    private static void nothingToTakeBack(Check t) {
        StableSale x = new StableSale();
        t.throwsState(() -> x.undo());
        x.pass(0);
        t.due(0, x.undo());
        t.throwsState(() -> x.undo());
    }

    private static void aSaleOfNothing(Check t) {
        StableSale x = new StableSale();
        t.due(-1, StableSale.NONE);
        for (int amount : new int[] {0, 1, 7, 1999999999, 2000000000}) {
            t.due(0, x.set(amount));
            t.due(0, x.gets(amount, 0, 0));
            t.due(amount, x.gets(amount, 0, StableSale.NONE));
            t.due(0, x.brings(amount, 0));
            t.due(0, x.brings(amount, 7));
        }
        t.throwsArgument(() -> x.gets(1, 1, 0));
        t.due(StableSale.NONE, x.flip(0, 2000000000));
    }

    private static void objectsShareNothing(Check t) {
        StableSale x = new StableSale();
        StableSale other = new StableSale();
        x.preferred(10, 100, 0, 0, 100, 0);
        x.issue(0, 0, 5, 1);
        x.pool(10);
        x.pass(3);
        t.due(0, other.inIssue(0));
        t.throwsMissing(() -> other.inIssue(1));
        t.throwsState(() -> other.undo());
        t.due(0, other.pool(0));
        t.due(0, other.pass(0));
    }
}
