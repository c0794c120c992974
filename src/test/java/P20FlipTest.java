public final class P20FlipTest {
    public static void main(String[] args) {
        Check t = new Check();
        boundsOfEachAmount(t);
        lowIsLess(t);
        oneFlip(t);
        severalFlips(t);
        greatNumbers(t);
        theMiddleIsRoundedDown(t);
        noSetIsASetToo(t);
        t.end();
    }

    private static void boundsOfEachAmount(Check t) {
        t.argumentFrom(0, 1999999999, low -> new StableSale().flip(low, 2000000000));
        t.argumentFrom(1, 2000000000, high -> new StableSale().flip(0, high));
        t.throwsArgument(() -> new StableSale().flip(-2, -1));
        t.throwsArgument(() -> new StableSale().flip(-1, 0));
        t.throwsArgument(() -> new StableSale().flip(2000000000, 2000000001));
        t.throwsArgument(() -> new StableSale().flip(2000000001, 2000000002));
        t.throwsArgument(() -> new StableSale().flip(Integer.MIN_VALUE, Integer.MAX_VALUE));
    }

    private static void lowIsLess(Check t) {
        for (int n : new int[] {0, 1, 5, 1999999999, 2000000000}) {
            t.throwsArgument(() -> new StableSale().flip(n, n));
            t.throwsArgument(() -> new StableSale().flip(n, n - 1));
        }
        t.due(StableSale.NONE, new StableSale().flip(0, 1));
        t.due(StableSale.NONE, new StableSale().flip(4, 5));
        t.due(StableSale.NONE, new StableSale().flip(1999999999, 2000000000));
        t.throwsArgument(() -> new StableSale().flip(2000000000, 0));
    }

    private static void oneFlip(Check t) {
        StableSale x = new StableSale();
        x.preferred(10, 100, 0, 0, 100, 0);
        x.issue(0, 0, 100, 10);
        x.issue(1, 1, 100, 10);
        t.due(200002, x.flip(0, 2000000000));
        t.due(200002, x.flip(0, 200002));
        t.due(200002, x.flip(200001, 200002));
        t.due(200002, x.flip(200001, 200003));
        t.due(200002, x.flip(200000, 200002));
        t.due(StableSale.NONE, x.flip(0, 200001));
        t.due(StableSale.NONE, x.flip(200002, 2000000000));
    }

    private static int halved(StableSale x, long low, long high) {
        int lowSet = x.set((int) low);
        while (high - low > 1) {
            long middle = (low + high) / 2;
            if (x.set((int) middle) == lowSet) {
                low = middle;
            } else {
                high = middle;
            }
        }
        return (int) high;
    }

    private static StableSale withSeveralFlips() {
        StableSale x = new StableSale();
        x.preferred(1, 100, 0, 0, 100, 0);
        x.preferred(2, 100, 0, 0, 100, 0);
        x.preferred(3, 100, 0, 2, 200, 0);
        x.issue(0, 0, 10, 10);
        x.issue(1, 1, 10, 10);
        x.issue(2, 1, 10, 10);
        x.issue(3, 1, 10, 10);
        return x;
    }

    private static void severalFlips(Check t) {
        StableSale x = withSeveralFlips();
        int flips = 0;
        int low = 0;
        for (int at = x.flip(low, 100000); at != StableSale.NONE; at = x.flip(low, 100000)) {
            t.due(halved(x, low, 100000), at);
            if (x.set(at) == x.set(at - 1)) {
                t.report("no flip at " + at);
            }
            flips++;
            low = at;
        }
        t.due(3, flips);
        t.due(7, x.set(low));
        for (int high = 1; high < 30000; high += 611) {
            StableSale y = withSeveralFlips();
            boolean same = y.set(0) == y.set(high);
            t.due(same ? StableSale.NONE : halved(y, 0, high), y.flip(0, high));
        }
    }

    private static void greatNumbers(Check t) {
        StableSale x = new StableSale();
        x.preferred(1000, 150, 0, 0, 100, 0);
        for (int i = 0; i < 5; i++) {
            x.issue(0, 0, 1000, 1000);
            x.issue(1, 1, 1000, 1000);
        }
        t.due(1500000002, x.flip(0, 2000000000));
        t.due(1500000002, x.flip(1400000000, 2000000000));
        t.due(1500000002, x.flip(1500000001, 2000000000));
    }

    private static void theMiddleIsRoundedDown(Check t) {
        StableSale x = Stable.withoutSet();
        t.due(0, x.set(955));
        t.due(2, x.set(956));
        // The first middle is 925, 926, 926 and 927; only 926 has another set than the amounts beside it.
        t.due(956, x.flip(851, 1000));
        t.due(926, x.flip(852, 1000));
        t.due(926, x.flip(853, 1000));
        t.due(956, x.flip(854, 1000));
    }

    private static void noSetIsASetToo(Check t) {
        StableSale x = Stable.withoutSet();
        t.due(926, x.flip(925, 926));
        t.due(halved(x, 926, 2000000000), x.flip(926, 2000000000));
        t.due(halved(x, 0, 926), x.flip(0, 926));
        t.due(927, x.flip(926, 927));
    }
}
