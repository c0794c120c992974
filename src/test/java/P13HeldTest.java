public final class P13HeldTest {
    public static void main(String[] args) {
        Check t = new Check();
        ofEachClassAndHolder(t);
        t.elementsFrom(0, 0, c -> new StableSale().held(c, 0));
        t.elementsFrom(0, 2, c -> begun().held(c, 0));
        t.elementsFrom(0, 7, holder -> begun().held(0, holder));
        t.elementsFrom(0, 7, holder -> begun().held(2, holder));
        t.throwsMissing(() -> begun().held(Integer.MIN_VALUE, Integer.MAX_VALUE));
        asCallsChangeIt(t);
        t.end();
    }

    private static StableSale begun() {
        StableSale x = new StableSale();
        x.preferred(10, 100, 0, 0, 100, 0);
        x.preferred(10, 100, 0, 0, 100, 0);
        for (int c = 0; c <= 2; c++) {
            for (int holder = 0; holder < 8; holder++) {
                x.issue(c, holder, 100 * (c + 1) + holder, 10);
            }
        }
        return x;
    }

    private static void ofEachClassAndHolder(Check t) {
        StableSale x = begun();
        for (int c = 0; c <= 2; c++) {
            for (int holder = 0; holder < 8; holder++) {
                t.due(100 * (c + 1) + holder, x.held(c, holder));
            }
        }
    }

    private static void asCallsChangeIt(Check t) {
        StableSale x = begun();
        x.transfer(1, 0, 7, 200);
        t.due(0, x.held(1, 0));
        t.due(407, x.held(1, 7));
        x.convert(2, 3, 303);
        t.due(0, x.held(2, 3));
        t.due(103 + 303, x.held(0, 3));
        x.pool(5);
        x.grant(4, 5, 0, 0);
        t.due(104, x.held(0, 4));
        x.exercise(0, 5);
        t.due(109, x.held(0, 4));
    }
}
