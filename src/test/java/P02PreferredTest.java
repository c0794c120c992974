public final class P02PreferredTest {
    public static void main(String[] args) {
        Check t = new Check();
        refusesNumbersOutside(t);
        takesTheLeastAndTheMost(t);
        capIsLookedAtForEveryKind(t);
        fourAreTheMost(t);
        t.end();
    }

    private static void refusesNumbersOutside(Check t) {
        StableSale x = new StableSale();
        int[][] wrong = {
            {0, 100, 0, 0, 100, 0}, {1001, 100, 0, 0, 100, 0}, {-5, 100, 0, 0, 100, 0},
            {10, 49, 0, 0, 100, 0}, {10, 301, 0, 0, 100, 0},
            {10, 100, -1, 0, 100, 0}, {10, 100, 4, 0, 100, 0},
            {10, 100, 0, -1, 100, 0}, {10, 100, 0, 3, 100, 0},
            {10, 100, 0, 2, 99, 0}, {10, 100, 0, 2, 901, 0},
            {10, 100, 0, 0, 100, -1}, {10, 100, 0, 0, 100, 3},
            {Integer.MIN_VALUE, 100, 0, 0, 100, 0}, {10, Integer.MAX_VALUE, 0, 0, 100, 0},
        };
        for (int[] n : wrong) {
            t.throwsArgument(() -> x.preferred(n[0], n[1], n[2], n[3], n[4], n[5]));
        }
        t.throwsMissing(() -> x.inIssue(1));
        t.throwsState(() -> x.undo());
    }

    private static void takesTheLeastAndTheMost(Check t) {
        StableSale x = new StableSale();
        t.due(1, x.preferred(1, 50, 0, 0, 100, 0));
        t.due(2, x.preferred(1000, 300, 3, 2, 900, 2));
        t.due(3, x.preferred(10, 100, 1, 1, 500, 1));
        t.due(1000, x.conversion(1));
        t.due(1000000, x.conversion(2));
        t.due(10000, x.conversion(3));
        t.due(0, x.inIssue(3));
        t.due(0, x.held(2, 7));
        t.throwsMissing(() -> x.inIssue(4));
    }

    private static void capIsLookedAtForEveryKind(Check t) {
        StableSale x = new StableSale();
        for (int kind = 0; kind <= 2; kind++) {
            int k = kind;
            t.throwsArgument(() -> x.preferred(10, 100, 0, k, 0, 0));
            t.throwsArgument(() -> x.preferred(10, 100, 0, k, 99, 0));
            t.throwsArgument(() -> x.preferred(10, 100, 0, k, 901, 0));
        }
    }

    private static void fourAreTheMost(Check t) {
        StableSale x = new StableSale();
        for (int c = 1; c <= 4; c++) {
            t.due(c, x.preferred(10, 100, 0, 0, 100, 0));
        }
        t.throwsState(() -> x.preferred(10, 100, 0, 0, 100, 0));
        t.throwsArgument(() -> x.preferred(0, 100, 0, 0, 100, 0));
        t.throwsMissing(() -> x.inIssue(5));
        t.due(3, x.undo());
        t.due(4, x.preferred(20, 100, 0, 0, 100, 0));
        t.due(20000, x.conversion(4));
    }
}
