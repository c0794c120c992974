/** 'Terms': holders, classes, the numbers of a preferred class, and shares as converted. */
public final class T02ClassesTest {
    public static void main(String[] args) {
        Check t = new Check();
        holdersAreEight(t);
        classesAreThoseThereAre(t);
        preferredClassesAreThoseThereAre(t);
        classesAreInTheOrderInWhichTheyWereMade(t);
        capCountsForKindTwoAlone(t);
        conversionPriceAtFirst(t);
        asConvertedIsRoundedDown(t);
        commonOnesAreWhatTheyAre(t);
        allAsConvertedRoundsEachClassByItself(t);
        t.end();
    }

    private static StableSale everybodyHasShares() {
        StableSale x = new StableSale();
        x.preferred(10, 100, 0, 0, 100, 0);
        for (int holder = 0; holder < 8; holder++) {
            x.issue(0, holder, 10, 10);
            x.issue(1, holder, 10, 10);
        }
        x.pool(100);
        return x;
    }

    private static void holdersAreEight(Check t) {
        t.elementsFrom(0, 7, holder -> everybodyHasShares().issue(0, holder, 1, 10));
        t.elementsFrom(0, 7, holder -> everybodyHasShares().transfer(0, holder, holder == 0 ? 1 : 0, 10));
        t.elementsFrom(0, 7, holder -> everybodyHasShares().transfer(0, holder == 0 ? 1 : 0, holder, 10));
        t.elementsFrom(0, 7, holder -> everybodyHasShares().convert(1, holder, 10));
        t.elementsFrom(0, 7, holder -> everybodyHasShares().grant(holder, 10, 0, 0));
        t.elementsFrom(0, 7, holder -> everybodyHasShares().leave(holder));
        t.elementsFrom(0, 7, holder -> everybodyHasShares().held(0, holder));
        t.elementsFrom(0, 7, holder -> everybodyHasShares().held(1, holder));
        t.elementsFrom(0, 7, holder -> everybodyHasShares().brings(1000, holder));
    }

    private static StableSale withClasses(int count) {
        StableSale x = new StableSale();
        x.issue(0, 0, 10, 1000);
        for (int c = 1; c <= count; c++) {
            x.preferred(10 * c, 100, 0, 0, 100, 0);
            x.issue(c, 0, 10, 1000);
        }
        return x;
    }

    private static void classesAreThoseThereAre(Check t) {
        for (int count = 0; count <= 4; count++) {
            int n = count;
            t.elementsFrom(0, n, c -> withClasses(n).inIssue(c));
            t.elementsFrom(0, n, c -> withClasses(n).held(c, 0));
            t.elementsFrom(0, n, c -> withClasses(n).issue(c, 0, 1, 1000));
            t.elementsFrom(0, n, c -> withClasses(n).transfer(c, 0, 1, 1));
            // NONE, one below the common class, is the company here.
            t.elementsFrom(StableSale.NONE, n, c -> withClasses(n).gets(1000, 0, c));
        }
    }

    private static void preferredClassesAreThoseThereAre(Check t) {
        StableSale without = withClasses(0);
        for (int c = -1; c <= 5; c++) {
            int number = c;
            t.throwsMissing(() -> without.conversion(number));
            t.throwsMissing(() -> without.convert(number, 0, 1));
        }
        for (int count = 1; count <= 4; count++) {
            int n = count;
            t.elementsFrom(1, n, c -> withClasses(n).conversion(c));
            t.elementsFrom(1, n, c -> withClasses(n).convert(c, 0, 1));
        }
    }

    private static void classesAreInTheOrderInWhichTheyWereMade(Check t) {
        StableSale x = new StableSale();
        for (int c = 1; c <= 4; c++) {
            t.due(c, x.preferred(100 - c, 100, 0, 0, 100, 0));
        }
        for (int c = 1; c <= 4; c++) {
            t.due(1000 * (100 - c), x.conversion(c));
        }
    }

    private static StableSale oneOfKind(int kind, int cap) {
        StableSale x = new StableSale();
        x.preferred(1, 100, 0, kind, cap, 0);
        x.issue(0, 0, 1, 1);
        x.issue(1, 1, 1, 1);
        return x;
    }

    private static void capCountsForKindTwoAlone(Check t) {
        for (int cap : new int[] {100, 101, 899, 900}) {
            t.due(100, oneOfKind(0, cap).gets(10100, 0, 1));
            t.due(5100, oneOfKind(1, cap).gets(10100, 0, 1));
            t.due(cap, oneOfKind(2, cap).gets(10100, 0, 1));
        }
    }

    private static void conversionPriceAtFirst(Check t) {
        for (int price : new int[] {1, 2, 999, 1000}) {
            StableSale x = new StableSale();
            x.preferred(price, 100, 0, 0, 100, 2);
            t.due(1000 * price, x.conversion(1));
        }
    }

    /** One share is one and a half common ones. */
    private static StableSale threeForTwo() {
        StableSale x = new StableSale();
        x.preferred(3, 100, 0, 0, 100, 2);
        x.preferred(3, 100, 0, 0, 100, 2);
        x.issue(1, 1, 10, 3);
        x.issue(2, 2, 1, 3);
        x.issue(0, 0, 5, 2);
        return x;
    }

    private static void asConvertedIsRoundedDown(Check t) {
        int[] due = {0, 1, 3, 4, 6, 7, 9, 10, 12, 13, 15};
        for (int s = 1; s <= 10; s++) {
            t.due(due[s], threeForTwo().convert(1, 1, s));
        }
    }

    private static void commonOnesAreWhatTheyAre(Check t) {
        StableSale x = new StableSale();
        t.due(0, x.asConverted());
        x.issue(0, 0, 1, 1000);
        t.due(1, x.asConverted());
        x.issue(0, 1, 999, 1);
        t.due(1000, x.asConverted());
    }

    private static void allAsConvertedRoundsEachClassByItself(Check t) {
        StableSale x = threeForTwo();
        // 15, and 1 of 1 1/2
        t.due(5 + 15 + 1, x.asConverted());
        x.convert(1, 1, 1);
        // 13 of 13 1/2: the two halves make no share
        t.due(6 + 13 + 1, x.asConverted());
        x.transfer(1, 1, 3, 4);
        // The class is counted whole, not holder by holder.
        t.due(6 + 13 + 1, x.asConverted());
        x.convert(2, 2, 1);
        // A class that is not in issue has none.
        t.due(7 + 13, x.asConverted());
    }
}
