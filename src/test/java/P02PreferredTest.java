public final class P02PreferredTest {
    public static void main(String[] args) {
        Check t = new Check();
        boundsOfEachNumber(t);
        capIsLookedAtForEveryKind(t);
        allLeastAndAllMost(t);
        fourAreTheMost(t);
        wrongNumbersGoBeforeFour(t);
        aRefusedClassIsNone(t);
        t.end();
    }

    private static void boundsOfEachNumber(Check t) {
        t.argumentFrom(1, 1000, price -> new StableSale().preferred(price, 100, 0, 0, 100, 0));
        t.argumentFrom(50, 300, multiple -> new StableSale().preferred(10, multiple, 0, 0, 100, 0));
        t.argumentFrom(0, 3, rank -> new StableSale().preferred(10, 100, rank, 0, 100, 0));
        t.argumentFrom(0, 2, kind -> new StableSale().preferred(10, 100, 0, kind, 100, 0));
        t.argumentFrom(100, 900, cap -> new StableSale().preferred(10, 100, 0, 2, cap, 0));
        t.argumentFrom(0, 2, guard -> new StableSale().preferred(10, 100, 0, 0, 100, guard));
    }

    private static void capIsLookedAtForEveryKind(Check t) {
        for (int kind = 0; kind <= 2; kind++) {
            int k = kind;
            t.argumentFrom(100, 900, cap -> new StableSale().preferred(10, 100, 0, k, cap, 0));
            t.throwsArgument(() -> new StableSale().preferred(10, 100, 0, k, 0, 0));
        }
    }

    private static void allLeastAndAllMost(Check t) {
        StableSale x = new StableSale();
        t.due(1, x.preferred(1, 50, 0, 0, 100, 0));
        t.due(2, x.preferred(1000, 300, 3, 2, 900, 2));
        t.due(3, x.preferred(10, 100, 1, 1, 500, 1));
        t.due(1000, x.conversion(1));
        t.due(1000000, x.conversion(2));
        t.due(10000, x.conversion(3));
        t.due(0, x.inIssue(3));
        t.due(0, x.held(2, 7));
        t.throwsMissing(() -> x.inIssue(4));
    }

    private static void fourAreTheMost(Check t) {
        StableSale x = new StableSale();
        for (int c = 1; c <= 4; c++) {
            t.due(c, x.preferred(10, 100, 0, 0, 100, 0));
        }
        t.throwsState(() -> x.preferred(10, 100, 0, 0, 100, 0));
        t.throwsMissing(() -> x.inIssue(5));
        t.due(3, x.undo());
        t.due(4, x.preferred(20, 100, 0, 0, 100, 0));
        t.due(20000, x.conversion(4));
        t.throwsState(() -> x.preferred(20, 100, 0, 0, 100, 0));
    }

    private static void wrongNumbersGoBeforeFour(Check t) {
        StableSale x = new StableSale();
        for (int c = 1; c <= 4; c++) {
            x.preferred(10, 100, 0, 0, 100, 0);
        }
        int[][] wrong = {
            {0, 100, 0, 0, 100, 0}, {10, 49, 0, 0, 100, 0}, {10, 100, 4, 0, 100, 0},
            {10, 100, 0, 3, 100, 0}, {10, 100, 0, 0, 99, 0}, {10, 100, 0, 0, 100, 3},
        };
        for (int[] n : wrong) {
            t.throwsArgument(() -> x.preferred(n[0], n[1], n[2], n[3], n[4], n[5]));
        }
    }

    private static void aRefusedClassIsNone(Check t) {
        StableSale x = new StableSale();
        t.throwsArgument(() -> x.preferred(0, 100, 0, 0, 100, 0));
        t.throwsMissing(() -> x.inIssue(1));
        t.throwsState(() -> x.undo());
        t.due(1, x.preferred(10, 100, 0, 0, 100, 0));
    }
}
