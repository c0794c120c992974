public final class P14InIssueTest {
    public static void main(String[] args) {
        Check t = new Check();
        StableSale x = new StableSale();
        t.due(0, x.inIssue(0));
        t.throwsMissing(() -> x.inIssue(1));
        x.preferred(10, 100, 0, 0, 100, 0);
        t.due(0, x.inIssue(1));
        x.issue(1, 0, 20, 10);
        x.issue(1, 1, 30, 10);
        t.due(50, x.inIssue(1));
        t.due(0, x.inIssue(0));
        x.transfer(1, 1, 0, 10);
        t.due(50, x.inIssue(1));
        x.convert(1, 0, 12);
        t.due(38, x.inIssue(1));
        t.due(12, x.inIssue(0));
        x.pool(5);
        x.grant(0, 5, 0, 0);
        t.due(12, x.inIssue(0));
        x.exercise(0, 5);
        t.due(17, x.inIssue(0));
        t.throwsMissing(() -> x.inIssue(2));
        t.throwsMissing(() -> x.inIssue(-1));
        t.throwsMissing(() -> x.inIssue(5));
        t.end();
    }
}
