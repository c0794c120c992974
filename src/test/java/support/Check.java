import java.util.NoSuchElementException;

/** Counts and prints the answers that are not the ones that are due, each with the line that asked. */
final class Check {
    interface Call {
        int answer();
    }

    private int wrong = 0;

    void due(long want, long got) {
        if (got != want) {
            report("answered " + got + ", due is " + want);
        }
    }

    void throwsArgument(Call call) {
        throwsOne(IllegalArgumentException.class, call);
    }

    void throwsState(Call call) {
        throwsOne(IllegalStateException.class, call);
    }

    void throwsMissing(Call call) {
        throwsOne(NoSuchElementException.class, call);
    }

    void report(String what) {
        wrong++;
        StackTraceElement asker = asker();
        System.out.println(asker.getFileName() + ":" + asker.getLineNumber() + ": " + what);
    }

    void end() {
        if (wrong != 0) {
            System.out.println(wrong + " answers are not as due");
            System.exit(1);
        }
    }

    private void throwsOne(Class<?> want, Call call) {
        try {
            int got = call.answer();
            report("answered " + got + ", due is " + want.getSimpleName());
        } catch (RuntimeException e) {
            if (e.getClass() != want) {
                report("threw " + e.getClass().getSimpleName() + ", due is " + want.getSimpleName());
            }
        }
    }

    private static StackTraceElement asker() {
        for (StackTraceElement element : new Throwable().getStackTrace()) {
            if (!element.getClassName().equals("Check")) {
                return element;
            }
        }
        throw new IllegalStateException("nobody asked");
    }
}
