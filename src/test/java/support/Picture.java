import java.util.ArrayList;
import java.util.List;

/** All that questions can tell of an object, in some seventy calls; questions change nothing. */
final class Picture {
    private static final int MISSING = -7;
    private static final int[] AMOUNTS = {0, 999, 54321, 987654, 2000000000};

    private Picture() {
    }

    static List<Integer> of(StableSale x) {
        List<Integer> answers = new ArrayList<>();
        for (int c = 0; c <= 4; c++) {
            int number = c;
            answers.add(orMissing(() -> x.inIssue(number)));
            answers.add(orMissing(() -> x.conversion(number)));
            for (int holder = 0; holder < 8; holder++) {
                int h = holder;
                answers.add(orMissing(() -> x.held(number, h)));
            }
        }
        for (int g = 0; g < 10; g++) {
            int number = g;
            answers.add(orMissing(() -> x.vested(number)));
        }
        answers.add(x.granted());
        answers.add(x.asConverted());
        for (int amount : AMOUNTS) {
            answers.add(x.set(amount));
            answers.add(x.brings(amount, 1));
        }
        return answers;
    }

    private static int orMissing(Check.Call call) {
        try {
            return call.answer();
        } catch (RuntimeException e) {
            return MISSING;
        }
    }
}
