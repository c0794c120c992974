import java.util.NoSuchElementException;

/** Counts and prints the answers that are not the ones that are due, each with the line that asked. */
final class Check {
    interface Call {
        int answer();
    }

    /** A call of which one number is tried. */
    interface CallWith {
        int answer(int number);
    }

    private int wrong = 0;

    void due(long want, long got) {
        if (got != want) {
            report("answered " + got + ", due is " + want);
        }
    }

    void throwsArgument(Call call) {
        throwsOne(IllegalArgumentException.class, call);
    }

    void throwsState(Call call) {
        throwsOne(IllegalStateException.class, call);
    }

    void throwsMissing(Call call) {
        throwsOne(NoSuchElementException.class, call);
    }

    /** Taken on both bounds and one within, refused one outside and far outside. */
    void argumentFrom(int low, int high, CallWith call) {
        bounds(IllegalArgumentException.class, low, high, call);
    }

    /** Known on both bounds and one within, missing one outside and far outside. */
    void elementsFrom(int low, int high, CallWith call) {
        bounds(NoSuchElementException.class, low, high, call);
    }

    void report(String what) {
        wrong++;
        StackTraceElement asker = asker();
        System.out.println(asker.getFileName() + ":" + asker.getLineNumber() + ": " + what);
    }

    void end() {
        if (wrong != 0) {
            System.out.println(wrong + " answers are not as due");
            System.exit(1);
        }
    }

    private void bounds(Class<?> outside, int low, int high, CallWith call) {
        for (int number : new int[] {low, Math.min(low + 1, high), Math.max(low, high - 1), high}) {
            try {
                call.answer(number);
            } catch (RuntimeException e) {
                report("threw " + e.getClass().getSimpleName() + " with " + number);
            }
        }
        for (int number : new int[] {low - 1, high + 1, Integer.MIN_VALUE, Integer.MAX_VALUE}) {
            throwsOne(outside, () -> call.answer(number));
        }
    }

    private void throwsOne(Class<?> want, Call call) {
        try {
            int got = call.answer();
            report("answered " + got + ", due is " + want.getSimpleName());
        } catch (RuntimeException e) {
            if (e.getClass() != want) {
                report("threw " + e.getClass().getSimpleName() + ", due is " + want.getSimpleName());
            }
        }
    }

    private static StackTraceElement asker() {
        for (StackTraceElement element : new Throwable().getStackTrace()) {
            String name = element.getClassName();
            if (!name.startsWith("Check") && !name.equals("Parts")) {
                return element;
            }
        }
        throw new IllegalStateException("nobody asked");
    }
}
