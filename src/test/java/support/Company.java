/** A company written as rows: of six numbers a preferred class, of four a round. */
final class Company {
    private Company() {
    }

    static StableSale of(int[]... rows) {
        StableSale x = new StableSale();
        for (int[] n : rows) {
            if (n.length == 6) {
                x.preferred(n[0], n[1], n[2], n[3], n[4], n[5]);
            } else {
                x.issue(n[0], n[1], n[2], n[3]);
            }
        }
        return x;
    }

    static PlainModel modelOf(int[]... rows) {
        PlainModel y = new PlainModel();
        for (int[] n : rows) {
            if (n.length == 6) {
                y.preferred(n[0], n[1], n[2], n[3], n[4], n[5]);
            } else {
                y.issue(n[0], n[1], n[2], n[3]);
            }
        }
        return y;
    }
}
