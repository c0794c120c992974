public final class P01NewObjectTest {
    public static void main(String[] args) {
        Check t = new Check();
        StableSale x = new StableSale();
        t.due(-1, StableSale.NONE);
        for (int holder = 0; holder < 8; holder++) {
            t.due(0, x.held(0, holder));
            t.due(0, x.brings(1000, holder));
        }
        t.due(0, x.inIssue(0));
        t.due(0, x.asConverted());
        t.due(0, x.granted());
        t.throwsMissing(() -> x.inIssue(1));
        t.throwsMissing(() -> x.conversion(1));
        t.throwsMissing(() -> x.vested(0));
        t.throwsState(() -> x.undo());
        t.due(0, x.set(0));
        t.due(0, x.set(2000000000));
        t.due(0, x.gets(7, 0, 0));
        t.due(7, x.gets(7, 0, StableSale.NONE));
        t.due(StableSale.NONE, x.flip(0, 2000000000));
        t.throwsState(() -> x.grant(0, 1, 0, 0));
        t.due(0, x.pool(0));
        t.due(0, x.pass(0));

        StableSale other = new StableSale();
        x.issue(0, 0, 5, 1);
        t.due(0, other.inIssue(0));
        t.throwsState(() -> other.undo());
        t.end();
    }

}
