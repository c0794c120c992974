/** What a division brings: to the company, the common class and the preferred ones, in this order. */
final class Parts {
    private Parts() {
    }

    static void due(Check t, StableSale x, int amount, int set, int... parts) {
        for (int i = 0; i < parts.length; i++) {
            t.due(parts[i], x.gets(amount, set, i - 1));
        }
    }

    /** What each holder gets, from holder 0 on. */
    static void broughtDue(Check t, StableSale x, int amount, int... parts) {
        for (int holder = 0; holder < parts.length; holder++) {
            t.due(parts[holder], x.brings(amount, holder));
        }
    }
}
