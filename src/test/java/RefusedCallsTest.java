import java.util.ArrayList;
import java.util.List;
import java.util.NoSuchElementException;

/** A refused call changes nothing, and undo does not count it: each reason of each call, with undo empty and full. */
public final class RefusedCallsTest {
    private interface CallOn {
        int answer(StableSale x);
    }

    private record Refused(Class<?> due, CallOn call) {
    }

    public static void main(String[] args) {
        Check t = new Check();
        List<Refused> all = allRefusedCalls();
        for (int i = 0; i < all.size(); i++) {
            changesNothing(t, i, all.get(i));
            isNotTakenBack(t, i, all.get(i));
        }
        onANewObject(t);
        t.end();
    }

    private static List<Refused> allRefusedCalls() {
        List<Refused> all = new ArrayList<>();
        missing(all);
        wrong(all);
        impossible(all);
        return all;
    }

    /**
     * Four classes, of which 1 has all 5000 shares and 4 none; 20000 common shares, ten grants, no free pool,
     * a grant that is not vested; and more than eight changes.
     */
    private static StableSale full() {
        StableSale x = new StableSale();
        x.preferred(1000, 100, 0, 0, 100, 2);
        x.preferred(10, 150, 1, 1, 100, 1);
        x.preferred(10, 200, 2, 2, 300, 0);
        x.preferred(10, 100, 3, 0, 100, 0);
        x.issue(1, 1, 1000, 1000);
        x.issue(2, 2, 30, 1000);
        x.issue(3, 3, 30, 1000);
        x.issue(0, 0, 1000, 1);
        x.convert(1, 1, 19);
        for (int i = 0; i < 4; i++) {
            x.issue(1, 4, 1000, 1000);
        }
        x.issue(1, 5, 19, 1000);
        x.pool(100);
        x.grant(3, 50, 10, 20);
        for (int g = 1; g < 9; g++) {
            x.grant(g % 8, 5, 0, 0);
        }
        x.grant(6, 10, 0, 10);
        x.pass(5);
        return x;
    }

    private static void add(List<Refused> all, Class<?> due, CallOn... calls) {
        for (CallOn call : calls) {
            all.add(new Refused(due, call));
        }
    }

    private static void missing(List<Refused> all) {
        add(all, NoSuchElementException.class,
                x -> x.issue(-1, 0, 1, 1), x -> x.issue(5, 0, 1, 1), x -> x.issue(2, -1, 1, 1), x -> x.issue(2, 8, 1, 1),
                x -> x.transfer(-1, 0, 1, 1), x -> x.transfer(5, 0, 1, 1), x -> x.transfer(0, -1, 1, 1),
                x -> x.transfer(0, 8, 1, 1), x -> x.transfer(0, 0, -1, 1), x -> x.transfer(0, 0, 8, 1),
                x -> x.convert(-1, 2, 1), x -> x.convert(0, 0, 1), x -> x.convert(5, 2, 1),
                x -> x.convert(2, -1, 1), x -> x.convert(2, 8, 1),
                x -> x.grant(-1, 1, 0, 0), x -> x.grant(8, 1, 0, 0), x -> x.leave(-1), x -> x.leave(8),
                x -> x.exercise(-1, 1), x -> x.exercise(10, 1), x -> x.vested(-1), x -> x.vested(10),
                x -> x.held(-1, 0), x -> x.held(5, 0), x -> x.held(0, -1), x -> x.held(0, 8),
                x -> x.inIssue(-1), x -> x.inIssue(5), x -> x.conversion(-1), x -> x.conversion(0), x -> x.conversion(5),
                x -> x.gets(1, 0, -2), x -> x.gets(1, 0, 5), x -> x.brings(1, -1), x -> x.brings(1, 8));
    }

    private static void wrong(List<Refused> all) {
        add(all, IllegalArgumentException.class,
                x -> x.preferred(0, 100, 0, 0, 100, 0), x -> x.preferred(1001, 100, 0, 0, 100, 0),
                x -> x.preferred(10, 49, 0, 0, 100, 0), x -> x.preferred(10, 301, 0, 0, 100, 0),
                x -> x.preferred(10, 100, -1, 0, 100, 0), x -> x.preferred(10, 100, 4, 0, 100, 0),
                x -> x.preferred(10, 100, 0, -1, 100, 0), x -> x.preferred(10, 100, 0, 3, 100, 0),
                x -> x.preferred(10, 100, 0, 0, 99, 0), x -> x.preferred(10, 100, 0, 0, 901, 0),
                x -> x.preferred(10, 100, 0, 0, 100, -1), x -> x.preferred(10, 100, 0, 0, 100, 3),
                x -> x.issue(2, 0, 0, 1), x -> x.issue(2, 0, 1001, 1), x -> x.issue(2, 0, 1, 0), x -> x.issue(2, 0, 1, 1001),
                x -> x.transfer(0, 0, 0, 1), x -> x.transfer(0, 0, 1, 0), x -> x.transfer(0, 0, 1, -1),
                x -> x.convert(2, 2, 0), x -> x.convert(2, 2, -1),
                x -> x.pool(-1), x -> x.pool(99), x -> x.pool(5001),
                x -> x.grant(0, 0, 0, 0), x -> x.grant(0, 2001, 0, 0), x -> x.grant(0, 1, -1, 0), x -> x.grant(0, 1, 61, 61),
                x -> x.grant(0, 1, 0, -1), x -> x.grant(0, 1, 0, 61), x -> x.grant(0, 1, 2, 1),
                x -> x.pass(-1), x -> x.pass(61), x -> x.exercise(1, 0), x -> x.exercise(1, -1),
                x -> x.set(-1), x -> x.set(2000000001), x -> x.gets(-1, 0, 0), x -> x.gets(2000000001, 0, 0),
                x -> x.gets(1, 8, 0), x -> x.gets(1, 16, 0), x -> x.gets(1, -1, 0),
                x -> x.brings(-1, 0), x -> x.brings(2000000001, 0),
                x -> x.flip(-1, 1), x -> x.flip(0, 2000000001), x -> x.flip(1, 1), x -> x.flip(2, 1));
    }

    private static void impossible(List<Refused> all) {
        add(all, IllegalStateException.class,
                x -> x.preferred(10, 100, 0, 0, 100, 0), x -> x.issue(1, 0, 1, 1), x -> x.issue(0, 0, 1, 1),
                x -> x.transfer(0, 7, 0, 1), x -> x.transfer(2, 2, 0, 31), x -> x.convert(2, 2, 31), x -> x.convert(2, 0, 1),
                x -> x.convert(2, 2, 1), x -> x.grant(0, 1, 0, 0), x -> x.exercise(0, 1), x -> x.exercise(1, 6),
                x -> x.exercise(1, 1), x -> x.exercise(9, 6));
    }

    private static void refuses(Check t, StableSale x, int number, Refused refused) {
        try {
            t.report("refused call " + number + " answered " + refused.call.answer(x));
        } catch (RuntimeException e) {
            if (e.getClass() != refused.due) {
                t.report("refused call " + number + " threw " + e.getClass().getSimpleName());
            }
        }
    }

    private static void changesNothing(Check t, int number, Refused refused) {
        StableSale x = full();
        List<Integer> before = Picture.of(x);
        refuses(t, x, number, refused);
        if (!Picture.of(x).equals(before)) {
            t.report("refused call " + number + " changed something");
        }
        // The month and the pool, which no question tells.
        t.due(5, x.pass(0));
        t.due(100, x.pool(100));
    }

    private static void isNotTakenBack(Check t, int number, Refused refused) {
        StableSale x = full();
        StableSale twin = full();
        refuses(t, x, number, refused);
        for (int more = 7; more >= 0; more--) {
            t.due(more, x.undo());
            refuses(t, x, number, new Refused(IllegalArgumentException.class, y -> y.pass(61)));
            t.due(more, twin.undo());
        }
        if (!Picture.of(x).equals(Picture.of(twin))) {
            t.report("refused call " + number + " was kept for undo");
        }
        t.throwsState(() -> x.undo());
    }

    private static void onANewObject(Check t) {
        StableSale x = new StableSale();
        t.throwsArgument(() -> x.preferred(0, 100, 0, 0, 100, 0));
        t.throwsState(() -> x.undo());
        t.throwsState(() -> x.transfer(0, 0, 1, 1));
        t.throwsState(() -> x.undo());
        t.throwsState(() -> x.grant(0, 1, 0, 0));
        t.throwsState(() -> x.undo());
        t.due(1, x.issue(0, 0, 1, 1));
        t.throwsMissing(() -> x.leave(8));
        t.throwsMissing(() -> x.exercise(0, 1));
        t.throwsMissing(() -> x.convert(1, 0, 1));
        t.throwsArgument(() -> x.pool(5001));
        t.throwsArgument(() -> x.pass(61));
        t.throwsArgument(() -> x.issue(0, 0, 0, 1));
        t.due(0, x.undo());
        t.throwsState(() -> x.undo());
    }
}
