import java.util.Arrays;
import java.util.Random;

/**
 * Companies of a few shares, at amounts round the flips, where remainders decide, held against the plain model:
 * there more than one set may be stable, or none.
 */
public final class TinySalesTest {
    private static final int COMPANIES = 150;
    private static final int FLIPS = 4;

    /** Found by a long search: an amount without a stable set, then terms of the classes, then rounds of four numbers. */
    private static final int[][][] WITHOUT_SET = {
        {{33761}, {1, 214, 0, 2, 900, 0}, {2, 100, 2, 1, 500, 2}, {1, 179, 1, 2, 703, 2}, {1, 100, 2, 2, 800, 0},
            {4, 4, 13, 2}, {3, 3, 20, 1}, {2, 2, 3, 2}, {1, 1, 5, 1}},
        {{3131}, {2, 100, 2, 2, 326, 1}, {1, 100, 1, 2, 505, 1}, {2, 2, 5, 2}, {1, 1, 1, 1}},
        {{1393}, {1, 232, 0, 2, 481, 0}, {1, 262, 1, 0, 200, 1}, {4, 100, 1, 1, 768, 0},
            {3, 3, 1, 10}, {2, 2, 1, 10}, {1, 1, 1, 3}},
        {{65822}, {3, 69, 0, 1, 210, 0}, {8, 269, 0, 2, 170, 0}, {3, 100, 0, 2, 788, 0}, {10, 100, 0, 2, 313, 0},
            {4, 4, 6, 9}, {3, 3, 18, 1}, {2, 2, 1, 4}, {1, 1, 1, 3}},
        {{13594}, {3, 100, 3, 2, 374, 1}, {9, 196, 0, 0, 401, 0}, {4, 59, 1, 2, 100, 2}, {9, 280, 1, 0, 400, 0},
            {4, 4, 3, 6}, {3, 3, 1, 5}, {2, 2, 3, 1}, {1, 1, 1, 9}},
    };

    public static void main(String[] args) {
        Check t = new Check();
        Random random = new Random(7);
        for (int[][] company : WITHOUT_SET) {
            compareWithoutSet(t, company);
        }
        for (int i = 0; i < COMPANIES; i++) {
            StableSale x = new StableSale();
            PlainModel y = new PlainModel();
            make(random, x, y);
            int low = 0;
            for (int flip = 0; flip < FLIPS; flip++) {
                int at = x.flip(low, 2000000000);
                t.due(y.flip(low, 2000000000), at);
                if (at == StableSale.NONE) {
                    break;
                }
                compareRound(t, x, y, at);
                low = at;
            }
        }
        t.end();
    }

    private static void make(Random random, StableSale x, PlainModel y) {
        int classes = 2 + random.nextInt(3);
        int prices = 1 + random.nextInt(5);
        int shares = 1 + random.nextInt(4);
        for (int c = 1; c <= classes; c++) {
            int price = 1 + random.nextInt(prices);
            int multiple = random.nextBoolean() ? 100 : 50 + random.nextInt(251);
            int rank = random.nextInt(4);
            int kind = random.nextInt(3);
            int cap = 100 + random.nextInt(801);
            int guard = random.nextInt(3);
            x.preferred(price, multiple, rank, kind, cap, guard);
            y.preferred(price, multiple, rank, kind, cap, guard);
        }
        int last = random.nextInt(3) == 0 ? 0 : 1;
        for (int c = classes; c >= last; c--) {
            int s = 1 + random.nextInt(shares);
            int p = 1 + random.nextInt(prices);
            x.issue(c, c, s, p);
            y.issue(c, c, s, p);
        }
    }

    private static void compareWithoutSet(Check t, int[][] company) {
        int at = company[0][0];
        int[][] rows = Arrays.copyOfRange(company, 1, company.length);
        StableSale x = Company.of(rows);
        PlainModel y = Company.modelOf(rows);
        t.due(StableSale.NONE, x.set(at));
        compareRound(t, x, y, at);
        t.due(y.flip(at, 2000000000), x.flip(at, 2000000000));
        t.due(y.flip(0, at), x.flip(0, at));
    }

    private static void compareRound(Check t, StableSale x, PlainModel y, int at) {
        for (int amount = Math.max(0, at - 8); amount < at + 8; amount++) {
            t.due(y.set(amount), x.set(amount));
            t.due(y.brings(amount, 2), x.brings(amount, 2));
        }
    }
}
