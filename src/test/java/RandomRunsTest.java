import java.util.Map;
import java.util.Random;
import java.util.TreeMap;

/** Runs of 512 calls by chance, always the same ones, each answer held against the plain model's. */
public final class RandomRunsTest {
    private static final int RUNS = 600;
    private static final int MOST_CALLS = 512;
    private static final int FIRST_STEPS = 25;

    private final Random random;
    private final int run;
    private final StableSale x = new StableSale();
    private final PlainModel y = new PlainModel();
    private int calls = 0;
    private static final Check T = new Check();
    private static final Map<String, Integer> SEEN = new TreeMap<>();

    private RandomRunsTest(int run) {
        this.run = run;
        random = new Random(run);
    }

    public static void main(String[] args) {
        int runs = args.length > 0 ? Integer.parseInt(args[0]) : RUNS;
        for (int run = 0; run < runs; run++) {
            RandomRunsTest test = new RandomRunsTest(run);
            for (int step = 0; test.calls < MOST_CALLS; step++) {
                test.step(step);
            }
        }
        if (args.length > 0) {
            System.out.println(SEEN);
        }
        T.end();
    }

    private void same(String call, Check.Call program, Check.Call model) {
        if (calls == MOST_CALLS) {
            return;
        }
        calls++;
        String got = answerOf(program);
        String want = answerOf(model);
        String name = call.substring(0, call.indexOf('('));
        boolean number = want.matches("-?\\d+");
        SEEN.merge(name + (number ? want.equals("-1") ? " NONE" : " answers" : " " + want), 1, Integer::sum);
        if (!got.equals(want)) {
            T.report("run " + run + ": " + call + " answered " + got + ", the model " + want);
        }
    }

    private static String answerOf(Check.Call call) {
        try {
            return Integer.toString(call.answer());
        } catch (RuntimeException e) {
            return e.getClass().getSimpleName();
        }
    }

    /** Mostly within the bounds, sometimes just outside, seldom anything. */
    private int number(int low, int high) {
        int r = random.nextInt(60);
        if (r == 0) {
            return low - 1;
        }
        if (r == 1) {
            return high + 1;
        }
        if (r == 2) {
            return random.nextBoolean() ? low : high;
        }
        if (r == 3 && random.nextInt(10) == 0) {
            return random.nextInt();
        }
        return low + random.nextInt(high - low + 1);
    }

    private int shareClass() {
        return number(0, Math.min(4, known()));
    }

    private int known() {
        int c = 0;
        while (c < 4) {
            try {
                y.inIssue(c + 1);
            } catch (RuntimeException e) {
                return c;
            }
            c++;
        }
        return c;
    }

    private int holder() {
        return run % 3 == 0 ? number(0, 7) : number(0, 2);
    }

    private int amount() {
        switch (random.nextInt(5)) {
            case 0: return number(0, 50);
            case 1: return number(0, 100000);
            case 2: return number(0, 20000000);
            case 3: return number(0, 400000000);
            default: return number(0, 2000000000);
        }
    }

    private void step(int step) {
        int kind = random.nextInt(step < FIRST_STEPS ? 55 : 100);
        if (step < 8 && random.nextInt(3) == 0 || kind < 3) {
            int[] n = {run % 2 == 0 ? number(1, 12) : number(1, 1000), number(50, 300), number(0, 3),
                number(0, 2), number(100, 900), number(0, 2)};
            same("preferred(" + n[0] + " " + n[1] + " " + n[2] + " " + n[3] + " " + n[4] + " " + n[5] + ")",
                    () -> x.preferred(n[0], n[1], n[2], n[3], n[4], n[5]),
                    () -> y.preferred(n[0], n[1], n[2], n[3], n[4], n[5]));
        } else if (kind < 25) {
            int c = shareClass(), h = holder();
            int s = run % 2 == 0 ? number(1, 20) : number(1, 1000), p = run % 2 == 0 ? number(1, 12) : number(1, 1000);
            same("issue(" + c + " " + h + " " + s + " " + p + ")", () -> x.issue(c, h, s, p), () -> y.issue(c, h, s, p));
        } else if (kind < 29) {
            int c = shareClass(), a = holder(), b = holder(), s = number(1, 30);
            same("transfer(" + c + " " + a + " " + b + " " + s + ")", () -> x.transfer(c, a, b, s), () -> y.transfer(c, a, b, s));
        } else if (kind < 33) {
            int c = shareClass(), h = holder(), s = number(1, 30);
            same("convert(" + c + " " + h + " " + s + ")", () -> x.convert(c, h, s), () -> y.convert(c, h, s));
        } else if (kind < 36) {
            int n = number(0, 5000);
            same("pool(" + n + ")", () -> x.pool(n), () -> y.pool(n));
        } else if (kind < 40) {
            int h = holder(), s = number(1, random.nextBoolean() ? 100 : 2000), cliff = number(0, 20), length = number(Math.max(0, Math.min(cliff, 60)), 60);
            same("grant(" + h + " " + s + " " + cliff + " " + length + ")",
                    () -> x.grant(h, s, cliff, length), () -> y.grant(h, s, cliff, length));
        } else if (kind < 44) {
            int n = random.nextBoolean() ? number(0, 5) : number(0, 60);
            same("pass(" + n + ")", () -> x.pass(n), () -> y.pass(n));
        } else if (kind < 46) {
            int h = holder();
            same("leave(" + h + ")", () -> x.leave(h), () -> y.leave(h));
        } else if (kind < 51) {
            int g = number(0, 5), s = number(1, 30);
            same("exercise(" + g + " " + s + ")", () -> x.exercise(g, s), () -> y.exercise(g, s));
        } else if (kind < 55) {
            int times = random.nextInt(12) == 0 ? 9 : 1;
            for (int i = 0; i < times; i++) {
                same("undo()", x::undo, y::undo);
            }
        } else {
            ask(kind);
        }
    }

    private void ask(int kind) {
        if (kind < 65) {
            int g = number(0, 9), c = shareClass(), h = holder();
            same("vested(" + g + ")", () -> x.vested(g), () -> y.vested(g));
            same("granted()", x::granted, y::granted);
            same("held(" + c + " " + h + ")", () -> x.held(c, h), () -> y.held(c, h));
            same("inIssue(" + c + ")", () -> x.inIssue(c), () -> y.inIssue(c));
            same("asConverted()", x::asConverted, y::asConverted);
            same("conversion(" + c + ")", () -> x.conversion(c), () -> y.conversion(c));
        } else if (kind < 75) {
            int a = amount();
            same("set(" + a + ")", () -> x.set(a), () -> y.set(a));
        } else if (kind < 90) {
            int a = amount(), set = number(0, 15) & (random.nextInt(4) == 0 ? 15 : -1);
            for (int c = -2; c <= 5; c++) {
                int cc = c;
                same("gets(" + a + " " + set + " " + c + ")", () -> x.gets(a, set, cc), () -> y.gets(a, set, cc));
            }
        } else if (kind < 98) {
            int a = amount(), h = holder();
            same("brings(" + a + " " + h + ")", () -> x.brings(a, h), () -> y.brings(a, h));
        } else {
            int a = amount(), b = amount();
            same("flip(" + a + " " + b + ")", () -> x.flip(a, b), () -> y.flip(a, b));
        }
    }
}
