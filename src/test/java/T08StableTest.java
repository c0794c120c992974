import java.util.List;

/** 'Terms', a sale: which set is stable, and which of several is the set of an amount. */
public final class T08StableTest {
    public static void main(String[] args) {
        Check t = new Check();
        gettingTheSameIsNotMore(t);
        onlyClassesInIssueConvert(t);
        fewerConvertingGoFirst(t);
        ofAsManyTheLessBitsGoFirst(t);
        noneIsStable(t);
        leastAndGreatestAmount(t);
        t.end();
    }

    private static StableSale plain() {
        StableSale x = new StableSale();
        x.preferred(10, 100, 0, 0, 100, 0);
        x.issue(0, 0, 100, 10);
        x.issue(1, 1, 100, 10);
        return x;
    }

    private static void gettingTheSameIsNotMore(Check t) {
        StableSale x = plain();
        int[] amounts = {199999, 200000, 200001, 200002, 200003};
        int[] converted = {99999, 100000, 100000, 100001, 100001};
        int[] due = {0, 0, 0, 1, 1};
        for (int i = 0; i < amounts.length; i++) {
            t.due(100000, x.gets(amounts[i], 0, 1));
            t.due(converted[i], x.gets(amounts[i], 1, 1));
            t.due(due[i], x.set(amounts[i]));
        }
    }

    private static void onlyClassesInIssueConvert(Check t) {
        StableSale x = plain();
        x.preferred(10, 100, 0, 0, 100, 0);
        t.due(1, x.set(1000000));
        t.throwsArgument(() -> x.gets(1000000, 2, 1));
        x.issue(2, 2, 1, 10);
        t.due(3, x.set(1000000));
        x.convert(2, 2, 1);
        t.due(1, x.set(1000000));
        x.convert(1, 1, 100);
        t.due(0, x.set(1000000));
    }

    private static void stableSets(Check t, StableSale x, int amount, int classes, Integer... due) {
        List<Integer> found = Stable.sets(x, amount, classes);
        if (!found.equals(List.of(due))) {
            t.report("the stable sets of " + amount + " are " + found);
        }
        t.due(due[0], x.set(amount));
    }

    private static void fewerConvertingGoFirst(Check t) {
        StableSale x = new StableSale();
        x.preferred(1, 100, 2, 2, 400, 2);
        x.preferred(1, 100, 2, 2, 400, 2);
        x.preferred(1, 98, 0, 2, 400, 1);
        for (int c = 3; c >= 1; c--) {
            x.issue(c, c, 1, 1);
        }
        // Each gets 400 units by each of these: 4 converts one class, and the less number 3 two.
        stableSets(t, x, 1200, 3, 4, 3, 5, 6, 7);

        StableSale four = new StableSale();
        four.preferred(5, 86, 1, 0, 290, 2);
        four.preferred(5, 86, 1, 0, 290, 2);
        four.preferred(5, 86, 1, 0, 290, 2);
        four.preferred(5, 86, 1, 0, 290, 2);
        four.issue(4, 4, 4, 1);
        four.issue(3, 3, 2, 3);
        four.issue(2, 2, 4, 3);
        four.issue(1, 1, 2, 4);
        four.issue(0, 0, 2, 3);
        stableSets(t, four, 5735, 4, 10, 7, 11, 14, 15);
    }

    private static void ofAsManyTheLessBitsGoFirst(Check t) {
        StableSale x = new StableSale();
        x.preferred(2, 100, 0, 2, 249, 0);
        x.preferred(2, 100, 2, 2, 100, 0);
        x.preferred(1, 200, 2, 2, 400, 0);
        x.preferred(2, 100, 2, 0, 547, 0);
        x.issue(4, 4, 1, 1);
        x.issue(3, 3, 2, 1);
        x.issue(2, 2, 1, 1);
        x.issue(1, 1, 1, 1);
        x.issue(0, 0, 2, 1);
        stableSets(t, x, 2003, 4, 2, 8, 10);
    }

    private static void noneIsStable(Check t) {
        StableSale x = Stable.withoutSet();
        t.due(0, x.set(925));
        t.due(StableSale.NONE, x.set(926));
        t.due(Stable.first(x, 927, 2), x.set(927));
        if (!Stable.sets(x, 926, 2).isEmpty() || Stable.sets(x, 927, 2).isEmpty()) {
            t.report("926 units have a stable set, or 927 none");
        }
    }

    private static void leastAndGreatestAmount(Check t) {
        t.argumentFrom(0, 2000000000, amount -> plain().set(amount));
        t.due(0, plain().set(0));
        t.due(0, plain().set(1));
        t.due(1, plain().set(1999999999));
        t.due(1, plain().set(2000000000));
    }
}
