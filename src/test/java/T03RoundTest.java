/** 'Terms', a round: whose conversion price becomes what. */
public final class T03RoundTest {
    private static final int FULL = 2;
    private static final int AVERAGE = 1;

    public static void main(String[] args) {
        Check t = new Check();
        onlyClassesInIssue(t);
        notTheClassWhoseSharesTheseAre(t);
        notWithoutGuard(t);
        fullWhenThePriceIsAbove(t);
        averageWhenThePriceIsAbove(t);
        averageIsRoundedDown(t);
        leastAndMostOfARound(t);
        allAreLookedAtBeforeAnyIsChanged(t);
        aRefusedRoundIsNone(t);
        t.end();
    }

    /** A class at 10 cents with so many shares in issue, beside common ones. */
    private static StableSale guarded(int guard, int common, int shares) {
        StableSale x = new StableSale();
        x.preferred(10, 100, 0, 0, 100, guard);
        x.issue(0, 0, common, 10);
        if (shares > 0) {
            x.issue(1, 1, shares, 10);
        }
        return x;
    }

    private static void onlyClassesInIssue(Check t) {
        for (int guard = AVERAGE; guard <= FULL; guard++) {
            StableSale none = guarded(guard, 10, 0);
            none.issue(0, 0, 10, 1);
            t.due(10000, none.conversion(1));
            StableSale one = guarded(guard, 9, 1);
            one.issue(0, 0, 10, 1);
            t.due(guard == FULL ? 1000 : 5500, one.conversion(1));

            StableSale noMore = guarded(guard, 10, 1);
            noMore.convert(1, 1, 1);
            noMore.issue(0, 0, 10, 1);
            t.due(10000, noMore.conversion(1));
            noMore.issue(1, 1, 1, 10);
            noMore.issue(0, 0, 22, 1);
            // All as converted are 11 and 10 common shares, and one.
            t.due(guard == FULL ? 1000 : 5500, noMore.conversion(1));
        }
    }

    private static void notTheClassWhoseSharesTheseAre(Check t) {
        for (int guard = AVERAGE; guard <= FULL; guard++) {
            StableSale x = guarded(guard, 10, 10);
            x.preferred(10, 100, 0, 0, 100, guard);
            x.issue(2, 2, 10, 10);
            x.issue(1, 1, 30, 1);
            t.due(10000, x.conversion(1));
            t.due(guard == FULL ? 1000 : 5500, x.conversion(2));
        }
    }

    private static void notWithoutGuard(Check t) {
        StableSale x = guarded(0, 10, 10);
        x.issue(0, 0, 20, 1);
        t.due(10000, x.conversion(1));
        t.due(40, x.asConverted());
    }

    private static void fullWhenThePriceIsAbove(Check t) {
        int[][] due = {{11, 10000}, {10, 10000}, {9, 9000}, {1, 1000}};
        for (int[] d : due) {
            StableSale x = guarded(FULL, 10, 1);
            x.issue(0, 0, 1, d[0]);
            t.due(d[1], x.conversion(1));
        }
        StableSale lowered = guarded(FULL, 10, 1);
        lowered.issue(0, 0, 1, 5);
        lowered.issue(0, 0, 1, 6);
        t.due(5000, lowered.conversion(1));
        lowered.issue(0, 0, 1, 5);
        t.due(5000, lowered.conversion(1));
        lowered.issue(0, 0, 1, 4);
        t.due(4000, lowered.conversion(1));
    }

    private static void averageWhenThePriceIsAbove(Check t) {
        // (10000 * 889 + 1000 * 111) / 1000
        StableSale above = guarded(AVERAGE, 888, 1);
        above.issue(0, 0, 111, 1);
        t.due(9001, above.conversion(1));
        // (9001 * 1000 + 9000) / 1001 = 9000.9..
        above.issue(0, 0, 1, 9);
        t.due(9000, above.conversion(1));

        // (10000 * 888 + 1000 * 111) / 999
        StableSale equal = guarded(AVERAGE, 887, 1);
        equal.issue(0, 0, 111, 1);
        t.due(9000, equal.conversion(1));
        equal.issue(0, 0, 1000, 9);
        t.due(9000, equal.conversion(1));

        // (10000 * 895 + 1000 * 112) / 1007 = 8999.007
        StableSale below = guarded(AVERAGE, 894, 1);
        below.issue(0, 0, 112, 1);
        t.due(8999, below.conversion(1));
        below.issue(0, 0, 1000, 9);
        t.due(8999, below.conversion(1));
        below.issue(0, 0, 1000, 1000);
        t.due(8999, below.conversion(1));
    }

    private static void averageIsRoundedDown(Check t) {
        // 10000 * 889 and 1000 each: 9009.009.., 9001 and 8993.006..
        int[] due = {9009, 9001, 8993};
        for (int i = 0; i < 3; i++) {
            StableSale x = guarded(AVERAGE, 888, 1);
            x.issue(0, 0, 110 + i, 1);
            t.due(due[i], x.conversion(1));
        }
    }

    private static void leastAndMostOfARound(Check t) {
        StableSale alone = new StableSale();
        alone.preferred(10, 100, 0, 0, 100, AVERAGE);
        alone.issue(1, 1, 1, 10);
        // All as converted is 1: (10000 + 1000) / 2, then (5500 * 2 + 1000 * 1000) / 1002 = 1008.9..
        alone.issue(0, 0, 1, 1);
        t.due(5500, alone.conversion(1));
        t.due(2, alone.asConverted());
        alone.issue(0, 0, 1000, 1);
        t.due(1008, alone.conversion(1));

        StableSale great = new StableSale();
        great.preferred(1000, 100, 0, 0, 100, FULL);
        great.preferred(1000, 100, 0, 0, 100, AVERAGE);
        for (int i = 0; i < 5; i++) {
            great.issue(1, 1, 1000, 1000);
            great.issue(2, 2, 1000, 1000);
        }
        great.issue(0, 0, 1000, 1);
        // (1000000 * 10000 + 1000 * 1000) / 11000 = 909181.8..
        t.due(1000, great.conversion(1));
        t.due(909181, great.conversion(2));
        // 1000 + 5000 * 1000 + 5499 of 5499.4..
        t.due(5006499, great.asConverted());
        great.issue(0, 0, 1000, 1);
        // (909181 * 5006499 + 1000 * 1000) / 5007499 = 908999.6..
        t.due(908999, great.conversion(2));
    }

    private static void allAreLookedAtBeforeAnyIsChanged(Check t) {
        for (int full = 1; full <= 2; full++) {
            StableSale x = new StableSale();
            x.preferred(100, 100, 0, 0, 100, full == 1 ? FULL : AVERAGE);
            x.preferred(100, 100, 0, 0, 100, full == 2 ? FULL : AVERAGE);
            x.issue(1, 0, 10, 100);
            x.issue(2, 0, 10, 100);
            x.issue(0, 0, 20, 1);
            t.due(1000, x.conversion(full));
            // All as converted were 20: (100000 * 20 + 1000 * 20) / 40
            t.due(50500, x.conversion(3 - full));
        }
        StableSale both = new StableSale();
        both.preferred(100, 100, 0, 0, 100, AVERAGE);
        both.preferred(100, 100, 0, 0, 100, AVERAGE);
        both.issue(1, 0, 10, 100);
        both.issue(2, 0, 10, 100);
        both.issue(0, 0, 20, 1);
        t.due(50500, both.conversion(1));
        t.due(50500, both.conversion(2));
    }

    private static void aRefusedRoundIsNone(Check t) {
        StableSale x = guarded(FULL, 1000, 1);
        for (int i = 0; i < 4; i++) {
            x.issue(0, 0, 1000, 10);
        }
        t.throwsState(() -> x.issue(0, 0, 1, 1));
        t.throwsArgument(() -> x.issue(0, 0, 1001, 1));
        t.throwsMissing(() -> x.issue(0, 8, 1, 1));
        t.throwsMissing(() -> x.issue(2, 0, 1, 1));
        t.due(10000, x.conversion(1));
    }
}
