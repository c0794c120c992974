public final class P09LeaveTest {
    public static void main(String[] args) {
        Check t = new Check();
        t.elementsFrom(0, 7, holder -> new StableSale().leave(holder));
        ofHowManyGrants(t);
        withoutGrants(t);
        allOfTen(t);
        grantsOfWhoLeftStayAsTheyAre(t);
        whoLeftMayGetNewOnes(t);
        sharesStayToo(t);
        t.end();
    }

    private static void ofHowManyGrants(Check t) {
        StableSale x = new StableSale();
        x.pool(1000);
        x.grant(0, 100, 0, 10);
        x.grant(0, 100, 5, 10);
        x.grant(0, 100, 0, 0);
        x.grant(1, 100, 0, 10);
        x.grant(0, 100, 4, 4);
        x.pass(4);
        // 40, none, all, another's, all
        t.due(2, x.leave(0));
        t.due(40, x.vested(0));
        t.due(0, x.vested(1));
        t.due(100, x.vested(2));
        t.due(40, x.vested(3));
        t.due(100, x.vested(4));
        t.due(340, x.granted());
    }

    private static void withoutGrants(Check t) {
        StableSale x = new StableSale();
        t.due(0, x.leave(5));
        x.pool(10);
        x.grant(4, 10, 5, 5);
        t.due(0, x.leave(5));
        t.due(10, x.granted());
        t.due(1, x.leave(4));
        t.due(0, x.granted());
    }

    private static void allOfTen(Check t) {
        StableSale x = new StableSale();
        x.pool(5000);
        for (int g = 0; g < 10; g++) {
            x.grant(7, 10, 0, g);
        }
        x.pass(4);
        // Those of 5 to 9 months are not all vested.
        t.due(5, x.leave(7));
        t.due(0, x.leave(7));
    }

    private static void grantsOfWhoLeftStayAsTheyAre(Check t) {
        StableSale x = new StableSale();
        x.pool(1000);
        x.grant(0, 100, 0, 10);
        x.pass(4);
        x.exercise(0, 15);
        t.due(1, x.leave(0));
        t.due(0, x.leave(0));
        x.pass(60);
        t.due(40, x.vested(0));
        t.due(0, x.leave(0));
        t.due(40, x.granted());
        t.throwsState(() -> x.exercise(0, 26));
        t.due(1, x.exercise(0, 24));
        t.due(0, x.exercise(0, 1));
        t.throwsState(() -> x.exercise(0, 1));
        t.due(40, x.held(0, 0));
    }

    private static void whoLeftMayGetNewOnes(Check t) {
        StableSale x = new StableSale();
        x.pool(1000);
        x.grant(0, 100, 0, 10);
        x.pass(4);
        x.leave(0);
        t.due(1, x.grant(0, 50, 0, 10));
        x.pass(1);
        t.due(40, x.vested(0));
        t.due(5, x.vested(1));
        t.due(1, x.leave(0));
        t.due(45, x.granted());
        x.pass(9);
        t.due(5, x.vested(1));
    }

    private static void sharesStayToo(Check t) {
        StableSale x = new StableSale();
        x.issue(0, 3, 10, 1);
        x.leave(3);
        t.due(10, x.held(0, 3));
        t.due(20, x.issue(0, 3, 10, 1));
    }
}
