import java.math.BigInteger;
import java.util.ArrayDeque;
import java.util.ArrayList;
import java.util.Comparator;
import java.util.Deque;
import java.util.List;
import java.util.Map;
import java.util.NoSuchElementException;
import java.util.TreeMap;

/**
 * The document once more, word by word and with no thought of speed or room, to hold the program against.
 * Its numbers are BigIntegers and its undo keeps whole copies, so that it shares no shortcut with the program.
 */
final class PlainModel {
    private static final class Stock {
        int price, multiple, rank, kind, cap, guard;
        BigInteger conversionPrice;
        Map<Integer, Integer> owners = new TreeMap<>();

        Stock copy() {
            Stock s = new Stock();
            s.price = price;
            s.multiple = multiple;
            s.rank = rank;
            s.kind = kind;
            s.cap = cap;
            s.guard = guard;
            s.conversionPrice = conversionPrice;
            s.owners = new TreeMap<>(owners);
            return s;
        }

        int count() {
            return owners.values().stream().mapToInt(Integer::intValue).sum();
        }

        BigInteger common(int n) {
            return conversionPrice == null ? big(n) : big(n).multiply(big(1000L * price)).divide(conversionPrice);
        }
    }

    private static final class Option {
        int holder, shares, start, cliff, length, exercised;
        Integer leftIn;

        Option copy() {
            Option o = new Option();
            o.holder = holder;
            o.shares = shares;
            o.start = start;
            o.cliff = cliff;
            o.length = length;
            o.exercised = exercised;
            o.leftIn = leftIn;
            return o;
        }

        int vested(int present) {
            int m = (leftIn == null ? present : leftIn) - start;
            return m < cliff ? 0 : m >= length ? shares : shares * m / length;
        }

        int countsAsGranted() {
            return leftIn == null ? shares : vested(leftIn);
        }
    }

    private static final class Book {
        List<Stock> stocks = new ArrayList<>();
        List<Option> options = new ArrayList<>();
        int pool, month;

        Book copy() {
            Book b = new Book();
            stocks.forEach(s -> b.stocks.add(s.copy()));
            options.forEach(o -> b.options.add(o.copy()));
            b.pool = pool;
            b.month = month;
            return b;
        }
    }

    private Book book = new Book();
    private final Deque<Book> past = new ArrayDeque<>();

    PlainModel() {
        book.stocks.add(new Stock());
    }

    private static BigInteger big(long n) {
        return BigInteger.valueOf(n);
    }

    private void save() {
        past.addLast(book.copy());
        if (past.size() > 8) {
            past.removeFirst();
        }
    }

    private static boolean out(int n, int low, int high) {
        return n < low || n > high;
    }

    private Stock stock(int c) {
        if (out(c, 0, book.stocks.size() - 1)) {
            throw new NoSuchElementException();
        }
        return book.stocks.get(c);
    }

    private Stock preferredStock(int c) {
        if (c == 0) {
            throw new NoSuchElementException();
        }
        return stock(c);
    }

    private static void holder(int h) {
        if (out(h, 0, 7)) {
            throw new NoSuchElementException();
        }
    }

    private static void amount(int a) {
        if (out(a, 0, 2000000000)) {
            throw new IllegalArgumentException();
        }
    }

    int preferred(int price, int multiple, int rank, int kind, int cap, int guard) {
        if (out(price, 1, 1000) || out(multiple, 50, 300) || out(rank, 0, 3) || out(kind, 0, 2)
                || out(cap, 100, 900) || out(guard, 0, 2)) {
            throw new IllegalArgumentException();
        }
        if (book.stocks.size() == 5) {
            throw new IllegalStateException();
        }
        save();
        Stock s = new Stock();
        s.price = price;
        s.multiple = multiple;
        s.rank = rank;
        s.kind = kind;
        s.cap = cap;
        s.guard = guard;
        s.conversionPrice = big(1000L * price);
        book.stocks.add(s);
        return book.stocks.size() - 1;
    }

    int issue(int c, int h, int s, int p) {
        Stock mine = stock(c);
        holder(h);
        if (out(s, 1, 1000) || out(p, 1, 1000)) {
            throw new IllegalArgumentException();
        }
        if (mine.count() + s > 5000) {
            throw new IllegalStateException();
        }
        save();
        BigInteger all = big(asConverted());
        Map<Stock, BigInteger> changes = new java.util.IdentityHashMap<>();
        BigInteger roundPrice = big(1000L * p);
        for (Stock other : book.stocks) {
            if (other == mine || other.conversionPrice == null || other.count() == 0 || other.guard == 0
                    || other.conversionPrice.compareTo(roundPrice) <= 0) {
                continue;
            }
            changes.put(other, other.guard == 2 ? roundPrice
                    : other.conversionPrice.multiply(all).add(roundPrice.multiply(big(s))).divide(all.add(big(s))));
        }
        changes.forEach((other, price) -> other.conversionPrice = price);
        mine.owners.merge(h, s, Integer::sum);
        return mine.count();
    }

    int transfer(int c, int from, int to, int s) {
        Stock mine = stock(c);
        holder(from);
        holder(to);
        if (from == to || s < 1) {
            throw new IllegalArgumentException();
        }
        if (held(c, from) < s) {
            throw new IllegalStateException();
        }
        save();
        mine.owners.merge(from, -s, Integer::sum);
        mine.owners.merge(to, s, Integer::sum);
        return held(c, to);
    }

    int convert(int c, int h, int s) {
        Stock mine = preferredStock(c);
        holder(h);
        if (s < 1) {
            throw new IllegalArgumentException();
        }
        if (held(c, h) < s || mine.common(s).intValueExact() + inIssue(0) > 20000) {
            throw new IllegalStateException();
        }
        save();
        int n = mine.common(s).intValueExact();
        mine.owners.merge(h, -s, Integer::sum);
        stock(0).owners.merge(h, n, Integer::sum);
        return n;
    }

    int pool(int shares) {
        if (out(shares, 0, 5000) || shares < granted()) {
            throw new IllegalArgumentException();
        }
        save();
        int had = book.pool;
        book.pool = shares;
        return had;
    }

    int grant(int h, int shares, int cliff, int length) {
        holder(h);
        if (out(shares, 1, 2000) || out(cliff, 0, 60) || out(length, 0, 60) || length < cliff) {
            throw new IllegalArgumentException();
        }
        if (book.options.size() == 10 || book.pool - granted() < shares) {
            throw new IllegalStateException();
        }
        save();
        Option o = new Option();
        o.holder = h;
        o.shares = shares;
        o.start = book.month;
        o.cliff = cliff;
        o.length = length;
        book.options.add(o);
        return book.options.size() - 1;
    }

    int pass(int months) {
        if (out(months, 0, 60)) {
            throw new IllegalArgumentException();
        }
        save();
        book.month += months;
        return book.month;
    }

    int leave(int h) {
        holder(h);
        save();
        int n = 0;
        for (Option o : book.options) {
            if (o.holder == h && o.leftIn == null) {
                o.leftIn = book.month;
                n += o.vested(book.month) < o.shares ? 1 : 0;
            }
        }
        return n;
    }

    private Option option(int g) {
        if (out(g, 0, book.options.size() - 1)) {
            throw new NoSuchElementException();
        }
        return book.options.get(g);
    }

    int exercise(int g, int s) {
        Option o = option(g);
        if (s < 1) {
            throw new IllegalArgumentException();
        }
        int could = o.vested(book.month) - o.exercised;
        if (could < s || inIssue(0) + s > 20000) {
            throw new IllegalStateException();
        }
        save();
        o.exercised += s;
        stock(0).owners.merge(o.holder, s, Integer::sum);
        return could - s;
    }

    int vested(int g) {
        return option(g).vested(book.month);
    }

    int granted() {
        return book.options.stream().mapToInt(Option::countsAsGranted).sum();
    }

    int held(int c, int h) {
        Stock mine = stock(c);
        holder(h);
        return mine.owners.getOrDefault(h, 0);
    }

    int inIssue(int c) {
        return stock(c).count();
    }

    int asConverted() {
        return book.stocks.stream().map(s -> s.common(s.count())).reduce(BigInteger.ZERO, BigInteger::add).intValueExact();
    }

    int conversion(int c) {
        return preferredStock(c).conversionPrice.intValueExact();
    }

    private List<Integer> sets() {
        List<Integer> all = new ArrayList<>();
        for (int set = 0; set < 16; set++) {
            if (allowed(set)) {
                all.add(set);
            }
        }
        all.sort(Comparator.<Integer>comparingInt(Integer::bitCount).thenComparing(Comparator.naturalOrder()));
        return all;
    }

    private boolean allowed(int set) {
        for (int bit = 0; bit < 32; bit++) {
            if ((set >>> bit & 1) == 1 && (bit + 1 >= book.stocks.size() || book.stocks.get(bit + 1).count() == 0)) {
                return false;
            }
        }
        return true;
    }

    int set(int amount) {
        amount(amount);
        for (int set : sets()) {
            boolean stable = true;
            for (int c = 1; c < book.stocks.size(); c++) {
                if (inIssue(c) > 0 && divide(amount, set ^ 1 << c - 1).get(c).compareTo(divide(amount, set).get(c)) > 0) {
                    stable = false;
                }
            }
            if (stable) {
                return set;
            }
        }
        return -1;
    }

    int gets(int amount, int converts, int c) {
        amount(amount);
        if (!allowed(converts)) {
            throw new IllegalArgumentException();
        }
        if (c != -1) {
            stock(c);
        }
        return divide(amount, converts).get(c).intValueExact();
    }

    int brings(int amount, int h) {
        amount(amount);
        holder(h);
        int set = set(amount);
        if (set == -1) {
            return -1;
        }
        BigInteger sum = BigInteger.ZERO;
        for (int c = 0; c < book.stocks.size(); c++) {
            Map<Integer, BigInteger> weights = new TreeMap<>();
            stock(c).owners.forEach((owner, n) -> weights.put(owner, big(n)));
            sum = sum.add(shareOut(divide(amount, set).get(c), weights).getOrDefault(h, BigInteger.ZERO));
        }
        return sum.intValueExact();
    }

    int flip(int low, int high) {
        if (out(low, 0, 2000000000) || out(high, 0, 2000000000) || low >= high) {
            throw new IllegalArgumentException();
        }
        int lowSet = set(low);
        if (lowSet == set(high)) {
            return -1;
        }
        long a = low, b = high;
        while (b - a > 1) {
            long middle = (a + b) / 2;
            if (set((int) middle) == lowSet) {
                a = middle;
            } else {
                b = middle;
            }
        }
        return (int) b;
    }

    int undo() {
        if (past.isEmpty()) {
            throw new IllegalStateException();
        }
        book = past.removeLast();
        return past.size();
    }

    /** What each class gets, and -1, the company. */
    private Map<Integer, BigInteger> divide(int amount, int set) {
        Map<Integer, BigInteger> got = new TreeMap<>();
        for (int c = -1; c < book.stocks.size(); c++) {
            got.put(c, BigInteger.ZERO);
        }
        BigInteger left = big(amount);
        for (int rank = 0; rank <= 3; rank++) {
            Map<Integer, BigInteger> claims = new TreeMap<>();
            for (int c = 1; c < book.stocks.size(); c++) {
                if (inIssue(c) > 0 && (set >> c - 1 & 1) == 0 && stock(c).rank == rank) {
                    claims.put(c, preference(c));
                }
            }
            BigInteger all = claims.values().stream().reduce(BigInteger.ZERO, BigInteger::add);
            Map<Integer, BigInteger> paid = all.compareTo(left) <= 0 ? claims : shareOut(left, claims);
            paid.forEach((c, units) -> got.merge(c, units, BigInteger::add));
            left = left.subtract(all).max(BigInteger.ZERO);
        }
        divideRest(left, set, got);
        return got;
    }

    private BigInteger preference(int c) {
        return big(inIssue(c)).multiply(big(stock(c).price)).multiply(big(stock(c).multiple));
    }

    private void divideRest(BigInteger rest, int set, Map<Integer, BigInteger> got) {
        Map<Integer, BigInteger> weights = new TreeMap<>();
        Map<Integer, BigInteger> mosts = new TreeMap<>();
        for (int c = 0; c < book.stocks.size(); c++) {
            boolean converts = c > 0 && (set >> c - 1 & 1) == 1;
            if (inIssue(c) > 0 && (c == 0 || converts || stock(c).kind > 0)) {
                weights.put(c, stock(c).common(inIssue(c)));
            }
            if (c > 0 && inIssue(c) > 0 && !converts && stock(c).kind == 2) {
                BigInteger whole = big(inIssue(c)).multiply(big(stock(c).price)).multiply(big(stock(c).cap));
                mosts.put(c, whole.subtract(preference(c)).max(BigInteger.ZERO));
            }
        }
        boolean again = true;
        while (again) {
            again = false;
            BigInteger all = weights.values().stream().reduce(BigInteger.ZERO, BigInteger::add);
            for (int c : mosts.keySet()) {
                if (rest.multiply(weights.get(c)).divide(all).compareTo(mosts.get(c)) > 0) {
                    got.merge(c, mosts.get(c), BigInteger::add);
                    rest = rest.subtract(mosts.get(c));
                    weights.remove(c);
                    mosts.remove(c);
                    again = true;
                    break;
                }
            }
        }
        if (weights.isEmpty()) {
            got.merge(-1, rest, BigInteger::add);
        } else {
            shareOut(rest, weights).forEach((c, units) -> got.merge(c, units, BigInteger::add));
        }
    }

    private static Map<Integer, BigInteger> shareOut(BigInteger amount, Map<Integer, BigInteger> weights) {
        BigInteger all = weights.values().stream().reduce(BigInteger.ZERO, BigInteger::add);
        Map<Integer, BigInteger> parts = new TreeMap<>();
        if (all.signum() == 0) {
            return parts;
        }
        List<BigInteger[]> byRemainder = new ArrayList<>();
        BigInteger left = amount;
        for (Map.Entry<Integer, BigInteger> e : weights.entrySet()) {
            BigInteger[] division = amount.multiply(e.getValue()).divideAndRemainder(all);
            parts.put(e.getKey(), division[0]);
            left = left.subtract(division[0]);
            byRemainder.add(new BigInteger[] {division[1], big(e.getKey())});
        }
        byRemainder.sort((a, b) -> a[0].equals(b[0]) ? a[1].compareTo(b[1]) : b[0].compareTo(a[0]));
        for (int i = 0; i < left.intValueExact(); i++) {
            parts.merge(byRemainder.get(i)[1].intValueExact(), BigInteger.ONE, BigInteger::add);
        }
        return parts;
    }
}
