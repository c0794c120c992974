public final class P14InIssueTest {
    public static void main(String[] args) {
        Check t = new Check();
        whichClassesThereAre(t);
        asCallsChangeIt(t);
        t.end();
    }

    private static StableSale withClasses(int count) {
        StableSale x = new StableSale();
        for (int c = 1; c <= count; c++) {
            x.preferred(10, 100, 0, 0, 100, 0);
        }
        return x;
    }

    private static void whichClassesThereAre(Check t) {
        for (int count = 0; count <= 4; count++) {
            int n = count;
            t.elementsFrom(0, n, c -> withClasses(n).inIssue(c));
        }
        StableSale x = withClasses(4);
        for (int c = 0; c <= 4; c++) {
            t.due(0, x.inIssue(c));
        }
        x.undo();
        t.throwsMissing(() -> x.inIssue(4));
        t.due(0, x.inIssue(3));
    }

    private static void asCallsChangeIt(Check t) {
        StableSale x = withClasses(1);
        x.issue(1, 0, 20, 10);
        x.issue(1, 1, 30, 10);
        t.due(50, x.inIssue(1));
        t.due(0, x.inIssue(0));
        x.transfer(1, 1, 0, 10);
        t.due(50, x.inIssue(1));
        x.convert(1, 0, 12);
        t.due(38, x.inIssue(1));
        t.due(12, x.inIssue(0));
        x.pool(5);
        x.grant(0, 5, 0, 0);
        t.due(12, x.inIssue(0));
        x.exercise(0, 5);
        t.due(17, x.inIssue(0));
        x.convert(1, 0, 18);
        x.convert(1, 1, 20);
        t.due(0, x.inIssue(1));
        t.due(55, x.inIssue(0));
    }
}
