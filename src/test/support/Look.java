import java.util.ArrayList;
import java.util.List;
import java.util.function.Function;
import java.util.function.Supplier;

/**
 * All that can be seen of an array, now and after another tick. An object may be used for 512
 * calls, so it is looked at in parts, each on an object of its own.
 */
final class Look {
    private static final int CALLS_OF_A_PART = 100;
    private static final int DISKS = 8;
    private static final int TENANTS = 4;
    private static final int REQUESTS = 300;
    private static final int LINE = 200;
    private static final String NO_SUCH_INDEX = "throws IndexOutOfBoundsException";
    private static final List<Function<VolumeShepherd, String>> PARTS = parts();

    private Look() {
    }

    static List<String> all(Supplier<VolumeShepherd> maker) {
        List<String> looks = new ArrayList<>();
        for (Function<VolumeShepherd, String> part : PARTS) {
            looks.add(part.apply(maker.get()));
        }
        return looks;
    }

    static String answer(Supplier<Object> call) {
        try {
            return call.get().toString();
        } catch (RuntimeException thrown) {
            return "throws " + thrown.getClass().getSimpleName();
        }
    }

    private static List<Function<VolumeShepherd, String>> parts() {
        List<Function<VolumeShepherd, String>> now = new ArrayList<>();
        now.add(Look::figures);
        now.add(Look::disksAndTenants);
        addLines(now);
        addRequests(now);
        addBlocks(now);
        List<Function<VolumeShepherd, String>> all = new ArrayList<>(now);
        for (Function<VolumeShepherd, String> part : now) {
            all.add(x -> "after a tick: " + answer(() -> x.pass(1)) + ", " + part.apply(x));
        }
        return all;
    }

    private static String figures(VolumeShepherd x) {
        StringBuilder text = new StringBuilder("figures:");
        add(text, x::diskCount);
        add(text, x::tenantCount);
        add(text, x::clock);
        add(text, x::lostBlocks);
        add(text, x::degradedBlocks);
        add(text, x::rebuilt);
        add(text, x::openRebuilds);
        add(text, x::meanCopies);
        add(text, x::usedShare);
        add(text, x::isConsistent);
        for (int losses = 0; losses <= 3; losses++) {
            int number = losses;
            add(text, () -> x.doesBear(number));
            add(text, () -> x.doesBearByTrying(number));
        }
        // These change the array: they tell the hurry and the number of the next request.
        add(text, () -> x.setHurry(0));
        add(text, () -> x.read(0, 0));
        return text.toString();
    }

    private static String disksAndTenants(VolumeShepherd x) {
        StringBuilder text = new StringBuilder("disks and tenants:");
        for (int number = 0; number < DISKS; number++) {
            int disk = number;
            add(text, () -> x.diskState(disk));
            add(text, () -> x.usedOn(disk));
            add(text, () -> x.rottenOn(disk));
        }
        for (int number = 0; number < TENANTS; number++) {
            int tenant = number;
            add(text, () -> x.waitingOf(tenant));
            add(text, () -> x.servedOf(tenant));
            add(text, () -> x.creditsOf(tenant));
            add(text, () -> x.breachesOf(tenant));
            add(text, () -> x.blocksOf(tenant));
        }
        return text.toString();
    }

    private static void addLines(List<Function<VolumeShepherd, String>> parts) {
        for (int first = 0; first < LINE; first += CALLS_OF_A_PART) {
            int from = first;
            parts.add(x -> "line from " + from + ":" + lineFrom(x, from));
            for (int number = 0; number < DISKS; number++) {
                int disk = number;
                parts.add(x -> "disk " + disk + " from " + from + ": "
                        + answer(() -> x.writeDisk(disk)) + lineFrom(x, from));
            }
        }
    }

    private static String lineFrom(VolumeShepherd x, int first) {
        return row(index -> x.lineAt(first + index));
    }

    private static void addRequests(List<Function<VolumeShepherd, String>> parts) {
        for (int first = 0; first < REQUESTS; first += CALLS_OF_A_PART) {
            int from = first;
            parts.add(x -> "states from " + from + ":"
                    + row(index -> x.stateOf(from + index)));
            parts.add(x -> "answers from " + from + ":"
                    + row(index -> x.answerTo(from + index)));
        }
    }

    private static void addBlocks(List<Function<VolumeShepherd, String>> parts) {
        for (int number = 0; number < TENANTS; number++) {
            int t = number;
            String of = " of tenant " + t + ":";
            parts.add(x -> "copies" + of + row(block -> x.copiesOf(t, block)));
            parts.add(x -> "copies by disks" + of + row(block -> x.copiesByDisks(t, block)));
            parts.add(x -> "oldest copies" + of + row(block -> x.diskOfCopy(t, block, 0)));
            parts.add(x -> "second copies" + of + row(block -> x.diskOfCopy(t, block, 1)));
            parts.add(x -> "third copies" + of + row(block -> x.diskOfCopy(t, block, 2)));
            parts.add(x -> "values" + of + row(block -> x.valueOf(t, block)));
            parts.add(x -> "lost blocks" + of + row(block -> x.isLost(t, block)));
        }
    }

    /** The answers to the indices from 0 on; a row ends with the first index that there is not. */
    private static String row(Function<Integer, Object> call) {
        StringBuilder text = new StringBuilder();
        boolean ended = false;
        for (int number = 0; number < CALLS_OF_A_PART && !ended; number++) {
            int index = number;
            String answer = answer(() -> call.apply(index));
            text.append(' ').append(answer);
            ended = answer.equals(NO_SUCH_INDEX);
        }
        return text.toString();
    }

    private static void add(StringBuilder text, Supplier<Object> call) {
        text.append(' ').append(answer(call));
    }
}
