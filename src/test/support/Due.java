import java.util.List;
import java.util.function.Function;
import java.util.function.Supplier;

/** Compares answers with those that are due, prints the wrong ones, and ends the test. */
final class Due {
    private String source = "";
    private int wrong;

    /** What is due from here on is due by the promise. */
    void promise(int number) {
        source = "promise " + number;
    }

    /** What is due from here on is due by a sentence of the document's section 'Terms'. */
    void term(String sentence) {
        source = "terms, \"" + sentence + "\"";
    }

    void is(String call, Object got, Object want) {
        if (!got.equals(want)) {
            report(call + " answered " + got + ", due is " + want);
        }
    }

    void isThrown(String call, Class<? extends RuntimeException> want, Supplier<Object> answer) {
        try {
            report(call + " answered " + answer.get() + ", due is " + want.getSimpleName());
        } catch (RuntimeException thrown) {
            if (thrown.getClass() != want) {
                report(call + " threw " + thrown + ", due is " + want.getSimpleName());
            }
        }
    }

    /** The call throws what is due, and nothing that can be seen of the array has changed. */
    void isRefused(Scene scene, String call, Class<? extends RuntimeException> want,
            Function<VolumeShepherd, Object> refused) {
        String told = call + " (" + scene.name + ")";
        isThrown(told, want, () -> refused.apply(scene.make()));
        List<String> before = scene.looks();
        List<String> after = Look.all(() -> {
            VolumeShepherd x = scene.make();
            Look.answer(() -> refused.apply(x));
            return x;
        });
        for (int part = 0; part < before.size(); part++) {
            is(told + ", then " + part + " of what can be seen", after.get(part),
                    before.get(part));
        }
    }

    void report(String text) {
        wrong++;
        System.out.println(source + ": " + text);
    }

    void end() {
        System.out.println(wrong == 0 ? "all answers are as due" : wrong + " answers are wrong");
        if (wrong != 0) {
            System.exit(1);
        }
    }
}
