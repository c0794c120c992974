public final class P06PoolTest {
    public static void main(String[] args) {
        Check t = new Check();
        howManyItHad(t);
        t.argumentFrom(0, 5000, shares -> new StableSale().pool(shares));
        notLessThanWhatIsGranted(t);
        exercisedOnesAreGranted(t);
        whatIsGrantedNoMoreIsNot(t);
        allOfTheGreatestPool(t);
        t.end();
    }

    private static void howManyItHad(Check t) {
        StableSale x = new StableSale();
        t.due(0, x.pool(100));
        t.due(100, x.pool(100));
        t.due(100, x.pool(5000));
        t.due(5000, x.pool(0));
        t.throwsArgument(() -> x.pool(-1));
        t.throwsArgument(() -> x.pool(5001));
        t.due(0, x.pool(1));
    }

    private static void notLessThanWhatIsGranted(Check t) {
        StableSale x = new StableSale();
        x.pool(50);
        x.grant(0, 30, 10, 10);
        t.throwsArgument(() -> x.pool(0));
        t.throwsArgument(() -> x.pool(29));
        t.due(50, x.pool(31));
        t.due(31, x.pool(30));
        t.throwsState(() -> x.grant(1, 1, 0, 0));
        t.throwsArgument(() -> x.pool(29));
        t.due(30, x.pool(31));
        t.due(1, x.grant(1, 1, 0, 0));
        t.throwsArgument(() -> x.pool(30));
    }

    private static void exercisedOnesAreGranted(Check t) {
        StableSale x = new StableSale();
        x.pool(10);
        x.grant(1, 10, 0, 0);
        x.exercise(0, 10);
        t.throwsArgument(() -> x.pool(9));
        t.due(10, x.pool(10));
        x.leave(1);
        t.throwsArgument(() -> x.pool(9));
    }

    private static void whatIsGrantedNoMoreIsNot(Check t) {
        StableSale x = new StableSale();
        x.pool(50);
        x.grant(0, 30, 0, 10);
        x.pass(4);
        x.leave(0);
        t.throwsArgument(() -> x.pool(11));
        t.due(50, x.pool(12));
        t.due(12, x.pool(13));
    }

    private static void allOfTheGreatestPool(Check t) {
        StableSale x = new StableSale();
        x.pool(5000);
        x.grant(0, 2000, 0, 0);
        x.grant(0, 2000, 0, 0);
        x.grant(0, 1000, 0, 0);
        t.throwsArgument(() -> x.pool(4999));
        t.throwsArgument(() -> x.pool(5001));
        t.due(5000, x.pool(5000));
    }
}
