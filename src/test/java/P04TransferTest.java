public final class P04TransferTest {
    public static void main(String[] args) {
        Check t = new Check();
        StableSale x = new StableSale();
        x.preferred(10, 100, 0, 0, 100, 2);
        x.issue(0, 0, 10, 1);
        x.issue(1, 0, 20, 10);
        t.due(4, x.transfer(0, 0, 7, 4));
        t.due(5, x.transfer(0, 0, 7, 1));
        t.due(5, x.held(0, 0));
        t.due(10, x.inIssue(0));
        t.due(20, x.transfer(1, 0, 3, 20));
        t.due(0, x.held(1, 0));
        t.due(20, x.inIssue(1));
        t.due(10000, x.conversion(1));

        t.throwsState(() -> x.transfer(1, 0, 3, 1));
        t.throwsState(() -> x.transfer(0, 7, 0, 6));
        t.throwsState(() -> x.transfer(0, 7, 0, Integer.MAX_VALUE));
        t.throwsArgument(() -> x.transfer(0, 7, 7, 1));
        t.throwsArgument(() -> x.transfer(0, 1, 1, 1));
        t.throwsArgument(() -> x.transfer(0, 7, 0, 0));
        t.throwsArgument(() -> x.transfer(0, 7, 0, -1));
        t.throwsArgument(() -> x.transfer(0, 7, 0, Integer.MIN_VALUE));
        t.throwsMissing(() -> x.transfer(2, 7, 0, 1));
        t.throwsMissing(() -> x.transfer(-1, 7, 0, 1));
        t.throwsMissing(() -> x.transfer(0, 8, 0, 1));
        t.throwsMissing(() -> x.transfer(0, 7, 8, 1));
        t.throwsMissing(() -> x.transfer(0, -1, 0, 1));
        t.throwsMissing(() -> x.transfer(0, 7, -1, 1));
        t.throwsMissing(() -> x.transfer(0, 8, 8, 0));
        t.due(5, x.held(0, 7));
        t.due(5, x.held(0, 0));
        t.due(5, x.undo());
        t.end();
    }
}
