public final class P08PassTest {
    public static void main(String[] args) {
        Check t = new Check();
        t.argumentFrom(0, 60, months -> new StableSale().pass(months));
        theMonth(t);
        aRefusedCallPassesNone(t);
        t.end();
    }

    private static void theMonth(Check t) {
        StableSale x = new StableSale();
        t.due(0, x.pass(0));
        t.due(1, x.pass(1));
        t.due(60, x.pass(59));
        t.due(120, x.pass(60));
        t.due(120, x.pass(0));
        t.due(4, x.undo());
        t.due(3, x.undo());
        t.due(62, x.pass(2));
    }

    private static void aRefusedCallPassesNone(Check t) {
        StableSale x = new StableSale();
        t.due(5, x.pass(5));
        t.throwsArgument(() -> x.pass(61));
        t.throwsArgument(() -> x.pass(-1));
        t.due(5, x.pass(0));
        t.due(1, x.undo());
        t.due(0, x.undo());
        t.due(0, x.pass(0));
    }
}
