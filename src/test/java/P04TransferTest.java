public final class P04TransferTest {
    public static void main(String[] args) {
        Check t = new Check();
        ordinary(t);
        boundsOfEachNumber(t);
        bothAreTheSame(t);
        asManyAsTheFirstHas(t);
        missingGoesBeforeWrongAndThisBeforeTooMany(t);
        t.end();
    }

    private static StableSale begun() {
        StableSale x = new StableSale();
        x.preferred(10, 100, 0, 0, 100, 2);
        for (int holder = 0; holder < 8; holder++) {
            x.issue(0, holder, 10, 10);
            x.issue(1, holder, 20, 10);
        }
        return x;
    }

    private static void ordinary(Check t) {
        StableSale x = begun();
        t.due(14, x.transfer(0, 0, 7, 4));
        t.due(15, x.transfer(0, 0, 7, 1));
        t.due(5, x.held(0, 0));
        t.due(15, x.held(0, 7));
        t.due(80, x.inIssue(0));
        t.due(40, x.transfer(1, 0, 3, 20));
        t.due(0, x.held(1, 0));
        t.due(160, x.inIssue(1));
        t.due(1, x.transfer(1, 3, 0, 1));
        // A transfer is no round.
        t.due(10000, x.conversion(1));
        t.due(240, x.asConverted());
    }

    private static void boundsOfEachNumber(Check t) {
        t.elementsFrom(0, 1, c -> begun().transfer(c, 0, 1, 1));
        t.elementsFrom(0, 7, from -> begun().transfer(0, from, from == 3 ? 4 : 3, 1));
        t.elementsFrom(0, 7, to -> begun().transfer(0, to == 3 ? 4 : 3, to, 1));
        t.due(11, begun().transfer(0, 7, 0, 1));
        t.throwsArgument(() -> begun().transfer(0, 7, 0, 0));
        t.throwsArgument(() -> begun().transfer(0, 7, 0, -1));
        t.throwsArgument(() -> begun().transfer(0, 7, 0, Integer.MIN_VALUE));
    }

    private static void bothAreTheSame(Check t) {
        for (int holder = 0; holder < 8; holder++) {
            int h = holder;
            t.throwsArgument(() -> begun().transfer(0, h, h, 1));
            t.throwsArgument(() -> begun().transfer(1, h, h, 21));
        }
    }

    private static void asManyAsTheFirstHas(Check t) {
        StableSale x = begun();
        t.throwsState(() -> x.transfer(0, 7, 0, 11));
        t.throwsState(() -> x.transfer(0, 7, 0, Integer.MAX_VALUE));
        t.due(19, x.transfer(0, 7, 0, 9));
        t.throwsState(() -> x.transfer(0, 7, 0, 2));
        t.due(20, x.transfer(0, 7, 0, 1));
        t.throwsState(() -> x.transfer(0, 7, 0, 1));
        t.due(0, x.held(0, 7));
        // What others and the holder's other classes have does not count.
        t.due(20, x.held(1, 7));
        t.due(30, x.transfer(0, 0, 1, 20));
    }

    private static void missingGoesBeforeWrongAndThisBeforeTooMany(Check t) {
        StableSale x = begun();
        t.throwsMissing(() -> x.transfer(2, 0, 0, 0));
        t.throwsMissing(() -> x.transfer(-1, 0, 1, 11));
        t.throwsMissing(() -> x.transfer(0, 8, 8, 0));
        t.throwsMissing(() -> x.transfer(0, -1, 0, 11));
        t.throwsMissing(() -> x.transfer(0, 0, -1, 0));
        t.throwsArgument(() -> x.transfer(0, 1, 1, 11));
        t.throwsState(() -> x.transfer(0, 0, 1, 11));
        t.due(10, x.held(0, 0));
        t.due(10, x.held(0, 1));
    }
}
