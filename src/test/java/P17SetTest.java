public final class P17SetTest {
    public static void main(String[] args) {
        Check t = new Check();
        boundsOfTheAmount(t);
        converts(t);
        onlyClassesInIssue(t);
        everySetCanBeTheOne(t);
        noSetIsStable(t);
        firstOfSeveralStableOnes(t);
        t.end();
    }

    private static void boundsOfTheAmount(Check t) {
        t.argumentFrom(0, 2000000000, amount -> new StableSale().set(amount));
        t.argumentFrom(0, 2000000000, amount -> Stable.withoutSet().set(amount));
    }

    private static void converts(Check t) {
        StableSale x = new StableSale();
        x.preferred(10, 100, 0, 0, 100, 0);
        x.issue(0, 0, 100, 10);
        x.issue(1, 1, 100, 10);
        t.due(0, x.set(0));
        t.due(0, x.set(100000));
        t.due(0, x.set(200000));
        // The odd unit goes to the common shares: converting would bring no more.
        t.due(0, x.set(200001));
        t.due(1, x.set(200002));
        t.due(1, x.set(2000000000));
        x.issue(0, 0, 100, 10);
        t.due(0, x.set(300001));
        t.due(1, x.set(300003));

        StableSale full = new StableSale();
        full.preferred(10, 100, 0, 1, 100, 0);
        full.issue(0, 0, 100, 10);
        full.issue(1, 1, 100, 10);
        t.due(0, full.set(2000000000));
    }

    private static void onlyClassesInIssue(Check t) {
        StableSale x = new StableSale();
        x.preferred(10, 100, 0, 0, 100, 0);
        x.preferred(10, 100, 0, 0, 100, 0);
        x.preferred(10, 50, 0, 0, 100, 0);
        t.due(0, x.set(2000000000));
        x.issue(0, 0, 100, 10);
        t.due(0, x.set(2000000000));
        x.issue(2, 1, 100, 10);
        t.due(2, x.set(2000000000));
        x.issue(3, 1, 100, 10);
        t.due(6, x.set(2000000000));
        x.convert(2, 1, 100);
        t.due(4, x.set(2000000000));
    }

    private static void everySetCanBeTheOne(Check t) {
        for (int set = 0; set < 16; set++) {
            StableSale x = new StableSale();
            x.issue(0, 0, 10, 1);
            for (int c = 1; c <= 4; c++) {
                // A sharing class loses its preference by converting, a plain one gains a part of much.
                x.preferred(1, 100, 0, (set >> c - 1 & 1) == 1 ? 0 : 1, 100, 0);
                x.issue(c, c, 10, 1);
            }
            t.due(set, x.set(1000000));
            t.due(0, x.set(1000));
        }
    }

    private static void noSetIsStable(Check t) {
        StableSale x = Stable.withoutSet();
        // Class 2 comes one unit above its most by a remainder: class 1 converts for one unit more,
        // then class 2 for one more, then class 1 turns back for its cap, and then class 2 too.
        int[][] due = {{370, 556}, {371, 555}, {400, 526}, {370, 556}};
        for (int set = 0; set < 4; set++) {
            t.due(due[set][0], x.gets(926, set, 1));
            t.due(due[set][1], x.gets(926, set, 2));
        }
        t.due(StableSale.NONE, x.set(926));
        t.due(0, x.set(925));
    }

    private static StableSale withSeveralStableOnes() {
        StableSale x = new StableSale();
        x.preferred(2, 100, 0, 2, 249, 0);
        x.preferred(2, 100, 2, 2, 100, 0);
        x.preferred(1, 200, 2, 2, 400, 0);
        x.preferred(2, 100, 2, 0, 547, 0);
        x.issue(4, 4, 1, 1);
        x.issue(3, 3, 2, 1);
        x.issue(2, 2, 1, 1);
        x.issue(1, 1, 1, 1);
        x.issue(0, 0, 2, 1);
        return x;
    }

    private static void firstOfSeveralStableOnes(Check t) {
        t.due(2, withSeveralStableOnes().set(2003));
        for (int amount = 0; amount < 6000; amount += 7) {
            StableSale x = withSeveralStableOnes();
            t.due(Stable.first(x, amount), x.set(amount));
        }
    }
}
