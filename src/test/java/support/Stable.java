import java.util.ArrayList;
import java.util.List;

/** The stable sets of an amount, found by gets alone, in the order in which the document looks at them. */
final class Stable {
    private Stable() {
    }

    /** Some two hundred calls. */
    static List<Integer> sets(StableSale x, int amount) {
        List<Integer> all = new ArrayList<>();
        for (int many = 0; many <= 4; many++) {
            for (int set = 0; set < 16; set++) {
                if (Integer.bitCount(set) == many && canConvert(x, set) && isStable(x, amount, set)) {
                    all.add(set);
                }
            }
        }
        return all;
    }

    static int first(StableSale x, int amount) {
        List<Integer> all = sets(x, amount);
        return all.isEmpty() ? StableSale.NONE : all.get(0);
    }

    /** A company for which no set is stable at 926 units. */
    static StableSale withoutSet() {
        StableSale x = new StableSale();
        x.preferred(1, 100, 2, 2, 200, 0);
        x.preferred(1, 100, 3, 2, 185, 2);
        x.issue(2, 2, 3, 2);
        x.issue(1, 1, 2, 2);
        return x;
    }

    private static boolean canConvert(StableSale x, int set) {
        try {
            x.gets(0, set, 0);
            return true;
        } catch (IllegalArgumentException e) {
            return false;
        }
    }

    private static boolean isStable(StableSale x, int amount, int set) {
        for (int c = 1; c <= 4; c++) {
            int other = set ^ 1 << c - 1;
            if (canConvert(x, set | other) && x.gets(amount, other, c) > x.gets(amount, set, c)) {
                return false;
            }
        }
        return true;
    }
}
