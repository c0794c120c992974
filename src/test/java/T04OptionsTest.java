/** 'Terms', options: what is vested in which month, and what a holder who leaves keeps. */
public final class T04OptionsTest {
    public static void main(String[] args) {
        Check t = new Check();
        roundTheCliff(t);
        roundTheLength(t);
        roundedDown(t);
        cliffAndLengthAreTheSame(t);
        lengthIsNothing(t);
        leastAndMostShares(t);
        fromThePresentMonthOn(t);
        leavingRoundTheCliff(t);
        leavingRoundTheLength(t);
        whatIsNotVestedMayBeGrantedAnew(t);
        exercisedOnesStayGranted(t);
        t.end();
    }

    /** What is vested of a grant so many months behind its own. */
    private static int vested(int shares, int cliff, int length, int months) {
        StableSale x = new StableSale();
        x.pool(5000);
        x.grant(0, shares, cliff, length);
        if (months > 60) {
            x.pass(60);
            x.pass(months - 60);
        } else {
            x.pass(months);
        }
        return x.vested(0);
    }

    private static void roundTheCliff(Check t) {
        t.due(0, vested(100, 4, 10, 0));
        t.due(0, vested(100, 4, 10, 3));
        t.due(40, vested(100, 4, 10, 4));
        t.due(50, vested(100, 4, 10, 5));
        t.due(0, vested(100, 1, 10, 0));
        t.due(10, vested(100, 1, 10, 1));
        t.due(0, vested(100, 0, 10, 0));
        t.due(10, vested(100, 0, 10, 1));
        t.due(0, vested(100, 9, 10, 8));
        t.due(90, vested(100, 9, 10, 9));
    }

    private static void roundTheLength(Check t) {
        t.due(90, vested(100, 4, 10, 9));
        t.due(100, vested(100, 4, 10, 10));
        t.due(100, vested(100, 4, 10, 11));
        t.due(98, vested(100, 0, 60, 59));
        t.due(100, vested(100, 0, 60, 60));
        t.due(100, vested(100, 0, 60, 61));
        t.due(0, vested(100, 0, 1, 0));
        t.due(100, vested(100, 0, 1, 1));
        t.due(100, vested(100, 0, 1, 2));
    }

    private static void roundedDown(Check t) {
        // 2 1/2, 5, 7 1/2
        int[] quarters = {0, 2, 5, 7, 10};
        // 3 1/3, 6 2/3
        int[] thirds = {0, 3, 6, 10, 10};
        for (int m = 0; m <= 4; m++) {
            t.due(quarters[m], vested(10, 0, 4, m));
            t.due(thirds[m], vested(10, 0, 3, m));
        }
    }

    private static void cliffAndLengthAreTheSame(Check t) {
        for (int n : new int[] {1, 2, 59, 60}) {
            t.due(0, vested(100, n, n, n - 1));
            t.due(100, vested(100, n, n, n));
            t.due(100, vested(100, n, n, n + 1));
        }
    }

    private static void lengthIsNothing(Check t) {
        t.due(100, vested(100, 0, 0, 0));
        t.due(100, vested(100, 0, 0, 1));
    }

    private static void leastAndMostShares(Check t) {
        t.due(0, vested(1, 0, 60, 59));
        t.due(1, vested(1, 0, 60, 60));
        t.due(33, vested(2000, 0, 60, 1));
        t.due(1966, vested(2000, 0, 60, 59));
        t.due(2000, vested(2000, 0, 60, 60));
    }

    private static void fromThePresentMonthOn(Check t) {
        StableSale x = new StableSale();
        x.pool(300);
        x.pass(60);
        x.pass(7);
        x.grant(0, 100, 2, 4);
        t.due(0, x.vested(0));
        x.pass(1);
        x.grant(0, 100, 2, 4);
        t.due(0, x.vested(0));
        x.pass(1);
        t.due(50, x.vested(0));
        t.due(0, x.vested(1));
        x.pass(1);
        t.due(75, x.vested(0));
        t.due(50, x.vested(1));
        x.pass(1);
        t.due(100, x.vested(0));
        t.due(75, x.vested(1));
    }

    /** The grant's holder leaves so many months behind its month: answers of leave, granted and vested, then and later. */
    private static void leaves(Check t, int[] grant, int months, int answer, int kept) {
        StableSale x = new StableSale();
        x.pool(1000);
        x.grant(3, grant[0], grant[1], grant[2]);
        x.pass(months);
        t.due(kept, x.vested(0));
        t.due(grant[0], x.granted());
        t.due(answer, x.leave(3));
        t.due(kept, x.vested(0));
        t.due(kept, x.granted());
        x.pass(1);
        t.due(kept, x.vested(0));
        t.due(0, x.leave(3));
        x.pass(60);
        t.due(kept, x.vested(0));
        t.due(kept, x.granted());
        t.due(0, x.leave(3));
    }

    private static void leavingRoundTheCliff(Check t) {
        leaves(t, new int[] {100, 4, 10}, 0, 1, 0);
        leaves(t, new int[] {100, 4, 10}, 3, 1, 0);
        leaves(t, new int[] {100, 4, 10}, 4, 1, 40);
        leaves(t, new int[] {100, 4, 10}, 5, 1, 50);
        leaves(t, new int[] {100, 0, 10}, 0, 1, 0);
        leaves(t, new int[] {10, 0, 3}, 2, 1, 6);
    }

    private static void leavingRoundTheLength(Check t) {
        leaves(t, new int[] {100, 4, 10}, 9, 1, 90);
        leaves(t, new int[] {100, 4, 10}, 10, 0, 100);
        leaves(t, new int[] {100, 4, 10}, 11, 0, 100);
        leaves(t, new int[] {100, 10, 10}, 9, 1, 0);
        leaves(t, new int[] {100, 10, 10}, 10, 0, 100);
        leaves(t, new int[] {100, 0, 0}, 0, 0, 100);
    }

    private static void whatIsNotVestedMayBeGrantedAnew(Check t) {
        StableSale x = new StableSale();
        x.pool(100);
        x.grant(3, 100, 0, 10);
        x.pass(4);
        t.throwsState(() -> x.grant(4, 1, 0, 0));
        x.leave(3);
        t.throwsState(() -> x.grant(4, 61, 0, 0));
        t.due(1, x.grant(4, 59, 0, 0));
        t.throwsState(() -> x.grant(4, 2, 0, 0));
        t.due(2, x.grant(3, 1, 0, 0));
        t.throwsState(() -> x.grant(4, 1, 0, 0));
        t.due(100, x.granted());
    }

    private static void exercisedOnesStayGranted(Check t) {
        StableSale x = new StableSale();
        x.pool(100);
        x.grant(3, 100, 0, 10);
        x.pass(4);
        t.due(0, x.exercise(0, 40));
        t.due(1, x.leave(3));
        t.due(40, x.vested(0));
        t.due(40, x.granted());
        x.pass(60);
        t.throwsState(() -> x.exercise(0, 1));
        t.due(40, x.held(0, 3));
    }
}
