import java.util.Arrays;
import java.util.NoSuchElementException;

/** A company's share ledger, and what a sale of the company brings to everybody. */
public final class StableSale {
    public static final int NONE = -1;

    private static final int HOLDERS = 8;
    private static final int COMMON = 0;
    private static final int CLASSES = 5;
    private static final int RANKS = 4;
    private static final int GRANTS = 10;
    private static final int UNDOS = 8;

    private static final int SHARING = 1;
    private static final int SHARING_TO_CAP = 2;
    private static final int NO_GUARD = 0;
    private static final int FULL_GUARD = 2;

    private static final int MOST_OF_A_ROUND = 1000;
    private static final int MOST_CENTS = 1000;
    private static final int MOST_BY_ROUNDS = 5000;
    private static final int MOST_COMMON = 20000;
    private static final int MOST_OF_THE_POOL = 5000;
    private static final int MOST_OF_A_GRANT = 2000;
    private static final int MOST_MONTHS = 60;
    private static final int MOST_UNITS = 2000000000;

    /** A division has a place for each class and, behind them, one for the company. */
    private static final int COMPANY = CLASSES;
    private static final int SETS = 16;
    /** The order in which a stable set is looked for: by how many convert, then by the bits. */
    private static final int[] SETS_IN_ORDER = {0, 1, 2, 4, 8, 3, 5, 6, 9, 10, 12, 7, 11, 13, 14, 15};
    /** Far above the 31 halvings that the widest two amounts need. */
    private static final int MOST_HALVINGS = 64;

    private final Ledger ledger;
    private final History history;
    private final Sale sale;

    public StableSale() {
        ledger = new Ledger();
        history = new History();
        sale = new Sale();
    }

    public int preferred(int price, int multiple, int rank, int kind, int cap, int guard)
            throws IllegalArgumentException, IllegalStateException {
        boolean numbersAreGood = within(price, 1, MOST_CENTS) && within(multiple, 50, 300)
                && within(rank, 0, RANKS - 1) && within(kind, 0, SHARING_TO_CAP)
                && within(cap, 100, 900) && within(guard, NO_GUARD, FULL_GUARD);
        if (!numbersAreGood) {
            throw new IllegalArgumentException();
        }
        int c = ledger.classCount;
        if (c >= CLASSES) {
            throw new IllegalStateException();
        }
        history.keep(ledger);
        ledger.classCount = c + 1;
        ledger.classes[c].setTerms(price, multiple, rank, kind, cap, guard);
        return c;
    }

    public int issue(int c, int holder, int s, int p)
            throws NoSuchElementException, IllegalArgumentException, IllegalStateException {
        requireClass(c);
        requireHolder(holder);
        if (!within(s, 1, MOST_OF_A_ROUND) || !within(p, 1, MOST_CENTS)) {
            throw new IllegalArgumentException();
        }
        ShareClass issued = ledger.classes[c];
        if (issued.inIssue + s > MOST_BY_ROUNDS) {
            throw new IllegalStateException();
        }
        history.keep(ledger);
        ledger.applyGuards(c, s, p);
        issued.give(holder, s);
        return issued.inIssue;
    }

    public int transfer(int c, int from, int to, int s)
            throws NoSuchElementException, IllegalArgumentException, IllegalStateException {
        requireClass(c);
        requireHolder(from);
        requireHolder(to);
        if (from == to || s < 1) {
            throw new IllegalArgumentException();
        }
        ShareClass moved = ledger.classes[c];
        if (moved.held[from] < s) {
            throw new IllegalStateException();
        }
        history.keep(ledger);
        moved.take(from, s);
        moved.give(to, s);
        return moved.held[to];
    }

    public int convert(int c, int holder, int s)
            throws NoSuchElementException, IllegalArgumentException, IllegalStateException {
        requirePreferred(c);
        requireHolder(holder);
        if (s < 1) {
            throw new IllegalArgumentException();
        }
        ShareClass converted = ledger.classes[c];
        ShareClass common = ledger.classes[COMMON];
        if (converted.held[holder] < s) {
            throw new IllegalStateException();
        }
        int commonShares = converted.inCommon(s);
        if (common.inIssue + commonShares > MOST_COMMON) {
            throw new IllegalStateException();
        }
        history.keep(ledger);
        converted.take(holder, s);
        common.give(holder, commonShares);
        return commonShares;
    }

    public int pool(int shares) throws IllegalArgumentException {
        if (!within(shares, 0, MOST_OF_THE_POOL) || shares < ledger.allGranted()) {
            throw new IllegalArgumentException();
        }
        history.keep(ledger);
        int before = ledger.pool;
        ledger.pool = shares;
        return before;
    }

    public int grant(int holder, int shares, int cliff, int length)
            throws NoSuchElementException, IllegalArgumentException, IllegalStateException {
        requireHolder(holder);
        boolean numbersAreGood = within(shares, 1, MOST_OF_A_GRANT) && within(cliff, 0, MOST_MONTHS)
                && within(length, cliff, MOST_MONTHS);
        if (!numbersAreGood) {
            throw new IllegalArgumentException();
        }
        int g = ledger.grantCount;
        if (g >= GRANTS || shares > ledger.pool - ledger.allGranted()) {
            throw new IllegalStateException();
        }
        history.keep(ledger);
        ledger.grantCount = g + 1;
        ledger.grants[g].start(holder, shares, ledger.month, cliff, length);
        return g;
    }

    public int pass(int months) throws IllegalArgumentException {
        if (!within(months, 0, MOST_MONTHS)) {
            throw new IllegalArgumentException();
        }
        history.keep(ledger);
        ledger.month += months;
        return ledger.month;
    }

    public int leave(int holder) throws NoSuchElementException {
        requireHolder(holder);
        history.keep(ledger);
        return ledger.endGrantsOf(holder);
    }

    public int exercise(int g, int s)
            throws NoSuchElementException, IllegalArgumentException, IllegalStateException {
        requireGrant(g);
        if (s < 1) {
            throw new IllegalArgumentException();
        }
        Grant exercised = ledger.grants[g];
        ShareClass common = ledger.classes[COMMON];
        int open = exercised.vestedIn(ledger.month) - exercised.exercised;
        if (s > open || common.inIssue + s > MOST_COMMON) {
            throw new IllegalStateException();
        }
        history.keep(ledger);
        exercised.exercised += s;
        common.give(exercised.holder, s);
        return open - s;
    }

    public int vested(int g) throws NoSuchElementException {
        requireGrant(g);
        return ledger.grants[g].vestedIn(ledger.month);
    }

    public int granted() {
        return ledger.allGranted();
    }

    public int held(int c, int holder) throws NoSuchElementException {
        requireClass(c);
        requireHolder(holder);
        return ledger.classes[c].held[holder];
    }

    public int inIssue(int c) throws NoSuchElementException {
        requireClass(c);
        return ledger.classes[c].inIssue;
    }

    public int asConverted() {
        return ledger.allInCommon();
    }

    public int conversion(int c) throws NoSuchElementException {
        requirePreferred(c);
        return ledger.classes[c].conversionPrice;
    }

    public int set(int amount) throws IllegalArgumentException {
        requireAmount(amount);
        return sale.stableSet(ledger, amount);
    }

    public int gets(int amount, int converts, int c) throws IllegalArgumentException, NoSuchElementException {
        requireAmount(amount);
        if (!ledger.canConvert(converts)) {
            throw new IllegalArgumentException();
        }
        if (c != NONE) {
            requireClass(c);
        }
        sale.begin(amount);
        int[] division = sale.divisionBy(ledger, converts);
        return c == NONE ? division[COMPANY] : division[c];
    }

    public int brings(int amount, int holder) throws IllegalArgumentException, NoSuchElementException {
        requireAmount(amount);
        requireHolder(holder);
        int stable = sale.stableSet(ledger, amount);
        return stable == NONE ? NONE : sale.broughtTo(ledger, stable, holder);
    }

    public int flip(int low, int high) throws IllegalArgumentException {
        requireAmount(low);
        requireAmount(high);
        if (low >= high) {
            throw new IllegalArgumentException();
        }
        int lowSet = sale.stableSet(ledger, low);
        if (lowSet == sale.stableSet(ledger, high)) {
            return NONE;
        }
        int lower = low;
        int upper = high;
        for (int i = 0; i < MOST_HALVINGS && upper - lower > 1; i++) {
            // The sum of two amounts may be too great for an int.
            int middle = lower + (upper - lower) / 2;
            if (sale.stableSet(ledger, middle) == lowSet) {
                lower = middle;
            } else {
                upper = middle;
            }
        }
        return upper;
    }

    public int undo() throws IllegalStateException {
        if (history.count == 0) {
            throw new IllegalStateException();
        }
        history.bringBack(ledger);
        return history.count;
    }

    private static boolean within(int number, int least, int most) {
        return number >= least && number <= most;
    }

    private static boolean contains(int set, int c) {
        return (set >> (c - 1) & 1) == 1;
    }

    private void requireClass(int c) {
        if (!within(c, COMMON, ledger.classCount - 1)) {
            throw new NoSuchElementException();
        }
    }

    private void requirePreferred(int c) {
        if (!within(c, COMMON + 1, ledger.classCount - 1)) {
            throw new NoSuchElementException();
        }
    }

    private void requireHolder(int holder) {
        if (!within(holder, 0, HOLDERS - 1)) {
            throw new NoSuchElementException();
        }
    }

    private void requireGrant(int g) {
        if (!within(g, 0, ledger.grantCount - 1)) {
            throw new NoSuchElementException();
        }
    }

    private void requireAmount(int amount) {
        if (!within(amount, 0, MOST_UNITS)) {
            throw new IllegalArgumentException();
        }
    }

    /** The terms of a class and who has how many of its shares. */
    private static final class ShareClass {
        int price;
        int multiple;
        int rank;
        int kind;
        int cap;
        int guard;
        int conversionPrice;
        int inIssue;
        final int[] held;

        /** With these two prices a share is one common share: so the common class needs no case of its own. */
        ShareClass() {
            price = 1;
            conversionPrice = 1000;
            held = new int[HOLDERS];
        }

        void setTerms(int price, int multiple, int rank, int kind, int cap, int guard) {
            this.price = price;
            this.multiple = multiple;
            this.rank = rank;
            this.kind = kind;
            this.cap = cap;
            this.guard = guard;
            conversionPrice = 1000 * price;
        }

        void copyFrom(ShareClass other) {
            price = other.price;
            multiple = other.multiple;
            rank = other.rank;
            kind = other.kind;
            cap = other.cap;
            guard = other.guard;
            conversionPrice = other.conversionPrice;
            inIssue = other.inIssue;
            System.arraycopy(other.held, 0, held, 0, HOLDERS);
        }

        void give(int holder, int shares) {
            held[holder] += shares;
            inIssue += shares;
        }

        void take(int holder, int shares) {
            held[holder] -= shares;
            inIssue -= shares;
        }

        int inCommon(int shares) {
            if (conversionPrice < 1) {
                return 0;
            }
            return (int) (shares * 1000L * price / conversionPrice);
        }

        /** At most 5000 * 1000 * 300, which an int holds. */
        int preference() {
            return inIssue * price * multiple;
        }

        long mostOfTheRest() {
            return Math.max(0, (long) inIssue * price * cap - preference());
        }

        void guardAgainst(int shares, int cents, int allBefore) {
            int roundPrice = 1000 * cents;
            if (inIssue == 0 || guard == NO_GUARD || conversionPrice <= roundPrice) {
                return;
            }
            if (guard == FULL_GUARD) {
                conversionPrice = roundPrice;
                return;
            }
            long sum = (long) conversionPrice * allBefore + (long) roundPrice * shares;
            long count = (long) allBefore + shares;
            if (count > 0) {
                conversionPrice = (int) (sum / count);
            }
        }
    }

    /** Options of one holder. */
    private static final class Grant {
        int holder;
        int shares;
        int month;
        int cliff;
        int length;
        int exercised;
        boolean ended;

        void start(int holder, int shares, int month, int cliff, int length) {
            this.holder = holder;
            this.shares = shares;
            this.month = month;
            this.cliff = cliff;
            this.length = length;
            exercised = 0;
            ended = false;
        }

        void copyFrom(Grant other) {
            holder = other.holder;
            shares = other.shares;
            month = other.month;
            cliff = other.cliff;
            length = other.length;
            exercised = other.exercised;
            ended = other.ended;
        }

        int vestedIn(int presentMonth) {
            // An ended grant keeps the vested shares alone, and no month changes them.
            if (ended) {
                return shares;
            }
            int months = presentMonth - month;
            if (months < cliff) {
                return 0;
            }
            if (months >= length || length < 1) {
                return shares;
            }
            return shares * months / length;
        }

        /** Whether something is granted no more by this. */
        boolean endIn(int presentMonth) {
            int before = shares;
            shares = vestedIn(presentMonth);
            ended = true;
            return shares < before;
        }
    }

    /** All that calls change and undo brings back. */
    private static final class Ledger {
        final ShareClass[] classes;
        final Grant[] grants;
        int classCount;
        int grantCount;
        int pool;
        int month;

        Ledger() {
            classes = new ShareClass[CLASSES];
            for (int c = 0; c < CLASSES; c++) {
                classes[c] = new ShareClass();
            }
            grants = new Grant[GRANTS];
            for (int g = 0; g < GRANTS; g++) {
                grants[g] = new Grant();
            }
            classCount = COMMON + 1;
        }

        void copyFrom(Ledger other) {
            for (int c = 0; c < CLASSES; c++) {
                classes[c].copyFrom(other.classes[c]);
            }
            for (int g = 0; g < GRANTS; g++) {
                grants[g].copyFrom(other.grants[g]);
            }
            classCount = other.classCount;
            grantCount = other.grantCount;
            pool = other.pool;
            month = other.month;
        }

        int allInCommon() {
            int all = 0;
            for (int c = 0; c < CLASSES; c++) {
                all += classes[c].inCommon(classes[c].inIssue);
            }
            return all;
        }

        void applyGuards(int issuedClass, int shares, int cents) {
            // Taken once: a price that has changed must not count for the next class.
            int allBefore = allInCommon();
            for (int c = COMMON + 1; c < CLASSES; c++) {
                if (c != issuedClass) {
                    classes[c].guardAgainst(shares, cents, allBefore);
                }
            }
        }

        int allGranted() {
            int all = 0;
            for (int g = 0; g < grantCount && g < GRANTS; g++) {
                all += grants[g].shares;
            }
            return all;
        }

        int endGrantsOf(int holder) {
            int lessened = 0;
            for (int g = 0; g < grantCount && g < GRANTS; g++) {
                if (grants[g].holder == holder && grants[g].endIn(month)) {
                    lessened++;
                }
            }
            return lessened;
        }

        /** A class that is not there is not in issue either. */
        boolean canConvert(int set) {
            if (!within(set, 0, SETS - 1)) {
                return false;
            }
            for (int c = COMMON + 1; c < CLASSES; c++) {
                if (contains(set, c) && classes[c].inIssue == 0) {
                    return false;
                }
            }
            return true;
        }
    }

    /** The ledger as it was before each of the latest changes. */
    private static final class History {
        final Ledger[] kept;
        int next;
        int count;

        History() {
            kept = new Ledger[UNDOS];
            for (int i = 0; i < UNDOS; i++) {
                kept[i] = new Ledger();
            }
        }

        void keep(Ledger ledger) {
            kept[next].copyFrom(ledger);
            next = (next + 1) % UNDOS;
            count = Math.min(count + 1, UNDOS);
        }

        void bringBack(Ledger ledger) {
            next = (next + UNDOS - 1) % UNDOS;
            count--;
            ledger.copyFrom(kept[next]);
        }
    }

    /** Shares out amounts by weights, of classes or of holders. */
    private static final class Sharing {
        final int[] parts;
        final long[] remainders;

        Sharing() {
            parts = new int[HOLDERS];
            remainders = new long[HOLDERS];
        }

        /** The parts are good until the next amount is shared out. */
        int[] shareOut(long amount, int[] weights) {
            Arrays.fill(parts, 0);
            int count = Math.min(weights.length, HOLDERS);
            long all = sumOf(weights);
            if (all < 1) {
                return parts;
            }
            long left = amount;
            for (int i = 0; i < count; i++) {
                long product = amount * weights[i];
                parts[i] = (int) (product / all);
                remainders[i] = product % all;
                left -= parts[i];
            }
            for (int i = 0; i < count && left > 0; i++) {
                int next = greatestRemainder(count);
                parts[next]++;
                // Below every remainder, so that it gets no second unit.
                remainders[next] = -1;
                left--;
            }
            return parts;
        }

        static long sumOf(int[] weights) {
            long all = 0;
            for (int weight : weights) {
                all += weight;
            }
            return all;
        }

        int greatestRemainder(int count) {
            int greatest = 0;
            for (int i = 1; i < count; i++) {
                if (remainders[i] > remainders[greatest]) {
                    greatest = i;
                }
            }
            return greatest;
        }
    }

    /** How an amount is divided by each set, and which set is stable. */
    private static final class Sale {
        final Sharing sharing;
        final int[][] divisions;
        final boolean[] divided;
        final int[] preferences;
        final int[] weights;
        final long[] mosts;
        final int[] claims;
        int amount;

        Sale() {
            sharing = new Sharing();
            divisions = new int[SETS][CLASSES + 1];
            divided = new boolean[SETS];
            preferences = new int[CLASSES];
            weights = new int[CLASSES];
            mosts = new long[CLASSES];
            claims = new int[CLASSES];
        }

        /** The ledger may have changed since the last amount, so no division of it is used again. */
        void begin(int newAmount) {
            amount = newAmount;
            for (int set = 0; set < SETS; set++) {
                divided[set] = false;
            }
        }

        int stableSet(Ledger ledger, int newAmount) {
            begin(newAmount);
            for (int set : SETS_IN_ORDER) {
                if (ledger.canConvert(set) && isStable(ledger, set)) {
                    return set;
                }
            }
            return NONE;
        }

        boolean isStable(Ledger ledger, int set) {
            int[] division = divisionBy(ledger, set);
            for (int c = COMMON + 1; c < CLASSES; c++) {
                int other = set ^ 1 << (c - 1);
                if (ledger.classes[c].inIssue > 0 && divisionBy(ledger, other)[c] > division[c]) {
                    return false;
                }
            }
            return true;
        }

        int broughtTo(Ledger ledger, int set, int holder) {
            int[] division = divisionBy(ledger, set);
            int brought = 0;
            for (int c = 0; c < CLASSES; c++) {
                brought += sharing.shareOut(division[c], ledger.classes[c].held)[holder];
            }
            return brought;
        }

        /** Each set is divided once for an amount: as a neighbour it is asked for again. */
        int[] divisionBy(Ledger ledger, int set) {
            int[] division = divisions[set];
            if (divided[set]) {
                return division;
            }
            divided[set] = true;
            Arrays.fill(division, 0);
            prepare(ledger, set);
            long rest = amount;
            for (int rank = 0; rank < RANKS; rank++) {
                rest = payRank(ledger, rank, rest, division);
            }
            rest = payMosts(rest, division);
            shareRest(rest, division);
            return division;
        }

        void prepare(Ledger ledger, int set) {
            for (int c = 0; c < CLASSES; c++) {
                ShareClass one = ledger.classes[c];
                boolean asCommon = c == COMMON || contains(set, c);
                boolean takesPart = asCommon || one.kind == SHARING || one.kind == SHARING_TO_CAP;
                boolean hasMost = !asCommon && one.kind == SHARING_TO_CAP;
                preferences[c] = asCommon ? 0 : one.preference();
                weights[c] = takesPart ? one.inCommon(one.inIssue) : 0;
                // No part is above the greatest amount, so this stands for having no most.
                mosts[c] = hasMost ? one.mostOfTheRest() : MOST_UNITS;
            }
        }

        /** What is left for the ranks behind this one. */
        long payRank(Ledger ledger, int rank, long left, int[] division) {
            for (int c = 0; c < CLASSES; c++) {
                claims[c] = ledger.classes[c].rank == rank ? preferences[c] : 0;
            }
            long all = Sharing.sumOf(claims);
            boolean enough = left >= all;
            int[] paid = enough ? claims : sharing.shareOut(left, claims);
            for (int c = 0; c < CLASSES; c++) {
                division[c] += paid[c];
            }
            return enough ? left - all : 0;
        }

        /** Pays out, one by one, the classes whose part would be above their most; what is left for the others. */
        long payMosts(long rest, int[] division) {
            long left = rest;
            for (int i = 0; i < CLASSES; i++) {
                int c = firstAboveItsMost(left);
                if (c == NONE) {
                    break;
                }
                division[c] += (int) mosts[c];
                left -= mosts[c];
                weights[c] = 0;
            }
            return left;
        }

        int firstAboveItsMost(long rest) {
            long all = Sharing.sumOf(weights);
            if (all < 1) {
                return NONE;
            }
            for (int c = 0; c < CLASSES; c++) {
                if (rest * weights[c] / all > mosts[c]) {
                    return c;
                }
            }
            return NONE;
        }

        void shareRest(long rest, int[] division) {
            if (Sharing.sumOf(weights) == 0) {
                division[COMPANY] = (int) rest;
                return;
            }
            int[] parts = sharing.shareOut(rest, weights);
            for (int c = 0; c < CLASSES; c++) {
                division[c] += parts[c];
            }
        }
    }
}
