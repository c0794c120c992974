import java.util.ArrayList;
import java.util.List;

/** The stable sets of an amount, found by gets alone, in the order in which the document looks at them. */
final class Stable {
    private Stable() {
    }

    static List<Integer> sets(StableSale x, int amount, int classes) {
        List<Integer> all = new ArrayList<>();
        for (int many = 0; many <= classes; many++) {
            for (int set = 0; set < 1 << classes; set++) {
                if (Integer.bitCount(set) == many && canConvert(x, set, classes) && isStable(x, amount, set, classes)) {
                    all.add(set);
                }
            }
        }
        return all;
    }

    /** A company for which no set is stable at 926 units. */
    static StableSale withoutSet() {
        StableSale x = new StableSale();
        x.preferred(1, 100, 2, 2, 200, 0);
        x.preferred(1, 100, 3, 2, 185, 2);
        x.issue(2, 2, 3, 2);
        x.issue(1, 1, 2, 2);
        return x;
    }

    static int first(StableSale x, int amount, int classes) {
        List<Integer> all = sets(x, amount, classes);
        return all.isEmpty() ? -1 : all.get(0);
    }

    private static boolean canConvert(StableSale x, int set, int classes) {
        for (int c = 1; c <= classes; c++) {
            if ((set >> c - 1 & 1) == 1 && x.inIssue(c) == 0) {
                return false;
            }
        }
        return true;
    }

    private static boolean isStable(StableSale x, int amount, int set, int classes) {
        for (int c = 1; c <= classes; c++) {
            if (x.inIssue(c) > 0 && x.gets(amount, set ^ 1 << c - 1, c) > x.gets(amount, set, c)) {
                return false;
            }
        }
        return true;
    }
}
