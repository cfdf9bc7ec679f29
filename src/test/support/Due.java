import java.util.function.Supplier;

/** Compares answers with those that are due, prints the wrong ones, and ends the test. */
final class Due {
    private String promise = "";
    private int wrong;

    void promise(int number) {
        promise = "promise " + number;
    }

    void is(String call, Object got, Object want) {
        if (!got.equals(want)) {
            report(call + " answered " + got + ", due is " + want);
        }
    }

    void isThrown(String call, Class<? extends RuntimeException> want, Supplier<Object> answer) {
        try {
            report(call + " answered " + answer.get() + ", due is " + want.getSimpleName());
        } catch (RuntimeException thrown) {
            if (thrown.getClass() != want) {
                report(call + " threw " + thrown + ", due is " + want.getSimpleName());
            }
        }
    }

    void report(String text) {
        wrong++;
        System.out.println(promise + ": " + text);
    }

    void end() {
        System.out.println(wrong == 0 ? "all answers are as due" : wrong + " answers are wrong");
        if (wrong != 0) {
            System.exit(1);
        }
    }
}
