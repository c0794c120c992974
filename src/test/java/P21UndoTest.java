import java.util.List;

public final class P21UndoTest {
    public static void main(String[] args) {
        Check t = new Check();
        takesEachCallBack(t);
        sevenEightAndNine(t);
        eightAtMost(t);
        whatDoesNotCount(t);
        whatChangesNothingCounts(t);
        newCallsBehindUndo(t);
        t.end();
    }

    private static StableSale begun() {
        StableSale x = new StableSale();
        x.preferred(10, 100, 0, 0, 100, 2);
        x.preferred(20, 150, 1, 2, 200, 1);
        x.issue(0, 0, 100, 20);
        x.issue(1, 1, 100, 20);
        x.issue(2, 2, 100, 20);
        x.pool(500);
        x.grant(3, 100, 2, 10);
        x.pass(5);
        return x;
    }

    private interface Change {
        int on(StableSale x);
    }

    private static void takesBack(Check t, Change change) {
        StableSale x = begun();
        List<Integer> before = Picture.of(x);
        int answer = change.on(x);
        t.due(7, x.undo());
        if (!Picture.of(x).equals(before)) {
            t.report("not all is as before");
        }
        t.due(answer, change.on(x));
        t.due(7, x.undo());
        // The month and the pool, which no question tells.
        t.due(5, x.pass(0));
        t.due(500, x.pool(500));
    }

    private static void takesEachCallBack(Check t) {
        takesBack(t, x -> x.preferred(7, 100, 0, 0, 100, 0));
        takesBack(t, x -> x.issue(0, 5, 50, 1));
        takesBack(t, x -> x.issue(2, 5, 50, 1));
        takesBack(t, x -> x.transfer(1, 1, 4, 30));
        takesBack(t, x -> x.convert(2, 2, 30));
        takesBack(t, x -> x.pool(100));
        takesBack(t, x -> x.grant(3, 400, 0, 3));
        takesBack(t, x -> x.pass(3));
        takesBack(t, x -> x.leave(3));
        takesBack(t, x -> x.exercise(0, 50));
    }

    private static void sevenEightAndNine(Check t) {
        for (int changes = 7; changes <= 9; changes++) {
            StableSale x = new StableSale();
            for (int i = 0; i < changes; i++) {
                x.pass(1);
            }
            for (int more = Math.min(changes, 8) - 1; more >= 0; more--) {
                t.due(more, x.undo());
            }
            t.throwsState(() -> x.undo());
            t.throwsState(() -> x.undo());
            t.due(Math.max(0, changes - 8), x.pass(0));
            t.due(0, x.undo());
            t.throwsState(() -> x.undo());
        }
    }

    private static void eightAtMost(Check t) {
        StableSale x = new StableSale();
        for (int i = 1; i <= 8; i++) {
            x.issue(0, 0, i, 1);
        }
        for (int i = 8; i >= 1; i--) {
            t.due(i - 1, x.undo());
            t.due(i * (i - 1) / 2, x.inIssue(0));
        }
        t.throwsState(() -> x.undo());

        for (int i = 1; i <= 30; i++) {
            x.issue(0, 0, i, 1);
        }
        for (int i = 30; i > 22; i--) {
            t.due(i - 23, x.undo());
            t.due(i * (i - 1) / 2, x.inIssue(0));
        }
        t.throwsState(() -> x.undo());
        t.due(253, x.inIssue(0));
    }

    private static void whatDoesNotCount(Check t) {
        StableSale x = new StableSale();
        x.issue(0, 0, 5, 1);
        t.throwsMissing(() -> x.issue(1, 0, 5, 1));
        t.throwsArgument(() -> x.preferred(0, 0, 0, 0, 0, 0));
        t.throwsState(() -> x.transfer(0, 1, 0, 5));
        t.throwsMissing(() -> x.convert(0, 0, 1));
        t.throwsArgument(() -> x.pool(-1));
        t.throwsState(() -> x.grant(0, 1, 0, 0));
        t.throwsArgument(() -> x.pass(61));
        t.throwsMissing(() -> x.leave(8));
        t.throwsMissing(() -> x.exercise(0, 1));
        x.granted();
        x.held(0, 0);
        x.inIssue(0);
        x.asConverted();
        x.set(5);
        x.gets(5, 0, 0);
        x.brings(5, 0);
        x.flip(5, 6);
        t.due(0, x.undo());
        t.due(0, x.inIssue(0));
        t.throwsState(() -> x.undo());
    }

    private static void whatChangesNothingCounts(Check t) {
        StableSale x = new StableSale();
        x.issue(0, 0, 5, 1);
        x.pass(0);
        x.leave(2);
        x.pool(0);
        t.due(3, x.undo());
        t.due(2, x.undo());
        t.due(1, x.undo());
        t.due(5, x.inIssue(0));
        t.due(0, x.undo());
        t.due(0, x.inIssue(0));
    }

    private static void newCallsBehindUndo(Check t) {
        StableSale x = new StableSale();
        for (int i = 0; i < 12; i++) {
            x.pass(1);
        }
        t.due(7, x.undo());
        t.due(6, x.undo());
        t.due(5, x.undo());
        t.due(19, x.pass(10));
        t.due(5, x.undo());
        t.due(4, x.undo());
        t.due(18, x.pass(10));
        t.due(28, x.pass(10));
        t.due(38, x.pass(10));
        t.due(48, x.pass(10));
        t.due(58, x.pass(10));
        t.due(7, x.undo());
        for (int i = 6; i >= 0; i--) {
            t.due(i, x.undo());
        }
        t.throwsState(() -> x.undo());
        // Five calls by tens and three by ones are taken back: eight of all.
        t.due(5, x.pass(0));
    }
}
