import java.util.NoSuchElementException;
import java.util.function.Function;

/**
 * Each call that throws, on an empty array, on one with disks, blocks and requests in all their
 * states, and on a full one: it throws what is documented first, and changes nothing.
 */
public final class RefusedCallsTest {
    private static final Due due = new Due();

    private static final Class<IllegalArgumentException> ARGUMENT = IllegalArgumentException.class;
    private static final Class<IllegalStateException> STATE = IllegalStateException.class;
    private static final Class<IndexOutOfBoundsException> INDEX = IndexOutOfBoundsException.class;
    private static final Class<NoSuchElementException> ELEMENT = NoSuchElementException.class;
    private static final Class<ArithmeticException> ARITHMETIC = ArithmeticException.class;

    private static final int HIGHEST = Integer.MAX_VALUE;
    private static final int LOWEST = Integer.MIN_VALUE;

    /** Times 100, the blocks of a tenant, it wraps around to 4. */
    private static final int TENANT_THAT_WRAPS = 42949673;
    /** Times 32, the most slots of a disk, it wraps around to 0. */
    private static final int DISK_THAT_WRAPS = 1 << 27;

    private static final Scene EMPTY = Scene.empty();
    private static final Scene MIXED = Scene.mixed();
    private static final Scene FULL = Scene.full();
    private static final Scene ASKED_OUT = Scene.askedOut();
    private static final Scene[] FIRST_THREE = {EMPTY, MIXED, FULL};

    private interface OnOne {
        Object ask(VolumeShepherd x, int number);
    }

    private interface OnBlock {
        Object ask(VolumeShepherd x, int tenant, int block);
    }

    public static void main(String[] args) {
        scenesAreAsTheyAreNamed();
        addDisk();
        onNoDisk();
        addTenant();
        onNoTenant();
        setHurry();
        readAndWriteOnNoBlock();
        writeOfNoValue();
        noRoomForRequest();
        onNoRequest();
        answerTo();
        passOutOfRange();
        passBeyondTheClock();
        onNoBlock();
        diskOfCopy();
        valueOf();
        doesBear();
        stateOfDisk();
        rot();
        meanCopies();
        usedShare();
        lineAt();
        due.end();
    }

    private static void refused(Scene scene, Class<? extends RuntimeException> want, String call,
            Function<VolumeShepherd, Object> answer) {
        due.isRefused(scene, call, want, answer);
    }

    /** A scene that lost one of its states would let refusals pass unseen. */
    private static void scenesAreAsTheyAreNamed() {
        due.term("Disks, tenants and blocks, requests, in all their states");
        VolumeShepherd mixed = MIXED.make();
        StringBuilder disks = new StringBuilder();
        for (int disk = 0; disk < 5; disk++) {
            disks.append(mixed.diskState(disk));
        }
        due.is("states of disks (mixed)", disks.toString(), "sswfs");
        due.is("lostBlocks() (mixed)", mixed.lostBlocks(), 2);
        due.is("copiesOf(0, 0), lost (mixed)", mixed.copiesOf(0, 0), 2);
        due.is("copiesOf(2, 7), lost (mixed)", mixed.copiesOf(2, 7), 0);
        due.is("degradedBlocks() (mixed)", mixed.degradedBlocks(), 1);
        due.is("openRebuilds() (mixed)", mixed.openRebuilds(), 1);
        due.is("rebuilt() (mixed)", mixed.rebuilt(), 2);
        due.is("creditsOf(0) (mixed)", mixed.creditsOf(0), 8);
        due.is("waitingOf(0) (mixed)", mixed.waitingOf(0), 8);
        StringBuilder requests = new StringBuilder();
        for (int request = 5; request < 15; request++) {
            requests.append(mixed.stateOf(request));
        }
        due.is("states of requests from 5 on (mixed)", requests.toString(), "dxxdddxdxw");
        VolumeShepherd full = FULL.make();
        due.is("usedShare() (full)", full.usedShare(), 1.0f);
        due.is("waitingOf(3) (full)", full.waitingOf(3), 10);
        due.is("servedOf(0) (asked out)", ASKED_OUT.make().servedOf(0), 150);
    }

    private static void addDisk() {
        due.promise(2);
        for (Scene scene : FIRST_THREE) {
            for (int slots : new int[] {0, 33, -1, HIGHEST, LOWEST}) {
                refused(scene, ARGUMENT, "addDisk(" + slots + ")", x -> x.addDisk(slots));
            }
        }
        refused(FULL, STATE, "addDisk(1)", x -> x.addDisk(1));
        refused(FULL, STATE, "addDisk(32)", x -> x.addDisk(32));
    }

    private static void onNoDisk() {
        noDisk(4, "diskState", VolumeShepherd::diskState);
        noDisk(5, "usedOn", VolumeShepherd::usedOn);
        noDisk(29, "fail", VolumeShepherd::fail);
        noDisk(30, "replace", VolumeShepherd::replace);
        noDisk(31, "warn", VolumeShepherd::warn);
        noDisk(32, "rot, slot 0", (x, disk) -> x.rot(disk, 0));
        noDisk(32, "rot, slot -1", (x, disk) -> x.rot(disk, -1));
        noDisk(32, "rot, slot 31", (x, disk) -> x.rot(disk, 31));
        noDisk(33, "scrub", VolumeShepherd::scrub);
        noDisk(34, "rottenOn", VolumeShepherd::rottenOn);
        noDisk(40, "writeDisk", VolumeShepherd::writeDisk);
    }

    private static void noDisk(int promise, String name, OnOne call) {
        due.promise(promise);
        refusedOn(EMPTY, name, call, 0, -1);
        refusedOn(MIXED, name, call, -1, 5, 7, 8, HIGHEST, LOWEST, DISK_THAT_WRAPS);
        refusedOn(FULL, name, call, -1, 8, DISK_THAT_WRAPS);
    }

    private static void refusedOn(Scene scene, String name, OnOne call, int... numbers) {
        for (int number : numbers) {
            refused(scene, INDEX, name + "(" + number + ")", x -> call.ask(x, number));
        }
    }

    private static void addTenant() {
        due.promise(6);
        int[][] wrong = {{0, 0}, {4, 20}, {1, -1}, {3, 21}, {0, 21}, {HIGHEST, 0}, {LOWEST, 0},
            {1, HIGHEST}, {1, LOWEST}};
        for (Scene scene : FIRST_THREE) {
            for (int[] pair : wrong) {
                refused(scene, ARGUMENT, "addTenant(" + pair[0] + ", " + pair[1] + ")",
                        x -> x.addTenant(pair[0], pair[1]));
            }
        }
        refused(FULL, STATE, "addTenant(1, 0)", x -> x.addTenant(1, 0));
        refused(FULL, STATE, "addTenant(3, 20)", x -> x.addTenant(3, 20));
    }

    private static void onNoTenant() {
        noTenant(13, "waitingOf", VolumeShepherd::waitingOf);
        noTenant(14, "servedOf", VolumeShepherd::servedOf);
        noTenant(15, "creditsOf", VolumeShepherd::creditsOf);
        noTenant(16, "breachesOf", VolumeShepherd::breachesOf);
        noTenant(19, "blocksOf", VolumeShepherd::blocksOf);
    }

    private static void noTenant(int promise, String name, OnOne call) {
        due.promise(promise);
        refusedOn(EMPTY, name, call, 0, -1);
        refusedOn(MIXED, name, call, -1, 3, 4, HIGHEST, LOWEST);
        refusedOn(FULL, name, call, -1, 4);
    }

    private static void setHurry() {
        due.promise(8);
        for (Scene scene : FIRST_THREE) {
            for (int units : new int[] {-1, 21, HIGHEST, LOWEST}) {
                refused(scene, ARGUMENT, "setHurry(" + units + ")", x -> x.setHurry(units));
            }
        }
    }

    /** Ahead of a wrong value, and ahead of there being no room for a request. */
    private static void readAndWriteOnNoBlock() {
        noBlock(9, "read", VolumeShepherd::read);
        noBlock(10, "write, value 0", (x, tenant, block) -> x.write(tenant, block, 0));
        noBlock(10, "write, value -1", (x, tenant, block) -> x.write(tenant, block, -1));
        noBlock(10, "write, value 10000", (x, tenant, block) -> x.write(tenant, block, 10000));
    }

    private static void noBlock(int promise, String name, OnBlock call) {
        due.promise(promise);
        refusedOn(EMPTY, name, call, new int[][] {{0, 0}, {-1, 0}, {0, -1}});
        refusedOn(MIXED, name, call, new int[][] {{-1, 0}, {3, 0}, {4, 0}, {0, -1}, {1, -1},
            {0, 100}, {2, 100}, {3, 100}, {-1, 100}, {TENANT_THAT_WRAPS, 0}, {HIGHEST, 0},
            {LOWEST, 0}, {0, HIGHEST}, {0, LOWEST}});
        refusedOn(FULL, name, call, new int[][] {{-1, 0}, {4, 0}, {0, -1}, {3, 100}});
        refusedOn(ASKED_OUT, name, call, new int[][] {{-1, 0}, {2, 0}, {0, -1}, {1, 100}});
    }

    private static void refusedOn(Scene scene, String name, OnBlock call, int[][] pairs) {
        for (int[] pair : pairs) {
            refused(scene, INDEX, name + "(" + pair[0] + ", " + pair[1] + ")",
                    x -> call.ask(x, pair[0], pair[1]));
        }
    }

    /** Ahead of there being no room for a request. */
    private static void writeOfNoValue() {
        due.promise(10);
        for (Scene scene : new Scene[] {MIXED, FULL, ASKED_OUT}) {
            for (int value : new int[] {-1, 10000, HIGHEST, LOWEST}) {
                refused(scene, ARGUMENT, "write(0, 0, " + value + ")",
                        x -> x.write(0, 0, value));
            }
        }
    }

    private static void noRoomForRequest() {
        for (Scene scene : new Scene[] {FULL, ASKED_OUT}) {
            due.promise(9);
            refused(scene, STATE, "read(0, 0)", x -> x.read(0, 0));
            refused(scene, STATE, "read(1, 99)", x -> x.read(1, 99));
            due.promise(10);
            refused(scene, STATE, "write(0, 0, 0)", x -> x.write(0, 0, 0));
            refused(scene, STATE, "write(1, 99, 9999)", x -> x.write(1, 99, 9999));
        }
    }

    private static void onNoRequest() {
        noRequest(11, "stateOf", VolumeShepherd::stateOf);
        noRequest(12, "answerTo", VolumeShepherd::answerTo);
    }

    private static void noRequest(int promise, String name, OnOne call) {
        due.promise(promise);
        refusedOn(EMPTY, name, call, 0, -1);
        refusedOn(MIXED, name, call, -1, 30, 299, 300, HIGHEST, LOWEST);
        refusedOn(FULL, name, call, -1, 128);
        refusedOn(ASKED_OUT, name, call, -1, 300);
    }

    private static void answerTo() {
        due.promise(12);
        refused(MIXED, ELEMENT, "answerTo(0), a write that is done", x -> x.answerTo(0));
        refused(MIXED, ELEMENT, "answerTo(6), a read that was refused", x -> x.answerTo(6));
        refused(MIXED, ELEMENT, "answerTo(7), a write that was refused", x -> x.answerTo(7));
        refused(MIXED, ELEMENT, "answerTo(14), a write that waits", x -> x.answerTo(14));
        refused(MIXED, ELEMENT, "answerTo(29), a read that waits", x -> x.answerTo(29));
        refused(FULL, ELEMENT, "answerTo(127), a read that waits", x -> x.answerTo(127));
        refused(ASKED_OUT, ELEMENT, "answerTo(299), refused", x -> x.answerTo(299));
    }

    /** Ahead of the clock's end. */
    private static void passOutOfRange() {
        due.promise(17);
        for (Scene scene : new Scene[] {EMPTY, MIXED, FULL, Scene.atHour(9999)}) {
            for (int ticks : new int[] {0, 51, -1, HIGHEST, LOWEST}) {
                refused(scene, ARGUMENT, "pass(" + ticks + ")", x -> x.pass(ticks));
            }
        }
    }

    private static void passBeyondTheClock() {
        due.promise(17);
        Scene last = Scene.atHour(9999);
        refused(last, STATE, "pass(1)", x -> x.pass(1));
        refused(last, STATE, "pass(50)", x -> x.pass(50));
        refused(Scene.atHour(9998), STATE, "pass(2)", x -> x.pass(2));
        refused(Scene.atHour(9950), STATE, "pass(50)", x -> x.pass(50));
        due.is("pass(49) at 9950", Scene.atHour(9950).make().pass(49), 9999);
        due.is("pass(1) at 9998", Scene.atHour(9998).make().pass(1), 9999);
        due.is("pass(50) at 9949", Scene.atHour(9949).make().pass(50), 9999);
    }

    /** Ahead of there being no such copy, and of there being no good one. */
    private static void onNoBlock() {
        noBlock(20, "copiesOf", VolumeShepherd::copiesOf);
        noBlock(21, "copiesByDisks", VolumeShepherd::copiesByDisks);
        noBlock(22, "diskOfCopy, index 0", (x, tenant, block) -> x.diskOfCopy(tenant, block, 0));
        noBlock(22, "diskOfCopy, index -1", (x, tenant, block) -> x.diskOfCopy(tenant, block, -1));
        noBlock(22, "diskOfCopy, index 3", (x, tenant, block) -> x.diskOfCopy(tenant, block, 3));
        noBlock(23, "valueOf", VolumeShepherd::valueOf);
        noBlock(24, "isLost", VolumeShepherd::isLost);
    }

    private static void diskOfCopy() {
        due.promise(22);
        noCopy(MIXED, 1, 5, -1, 3, HIGHEST, LOWEST);
        noCopy(MIXED, 0, 99, -1, 2, 3);
        noCopy(MIXED, 0, 0, -1, 2);
        noCopy(MIXED, 2, 8, -1, 1);
        noCopy(MIXED, 2, 7, -1, 0);
        noCopy(MIXED, 2, 99, -1, 0);
        noCopy(FULL, 0, 0, -1, 3);
        noCopy(FULL, 3, 99, -1, 0);
    }

    private static void noCopy(Scene scene, int tenant, int block, int... indices) {
        for (int index : indices) {
            refused(scene, ELEMENT, "diskOfCopy(" + tenant + ", " + block + ", " + index + ")",
                    x -> x.diskOfCopy(tenant, block, index));
        }
    }

    private static void valueOf() {
        due.promise(23);
        refused(MIXED, ELEMENT, "valueOf(0, 0), rotten copies", x -> x.valueOf(0, 0));
        refused(MIXED, ELEMENT, "valueOf(2, 7), no copies", x -> x.valueOf(2, 7));
        refused(MIXED, ELEMENT, "valueOf(0, 98), unwritten", x -> x.valueOf(0, 98));
        refused(FULL, ELEMENT, "valueOf(3, 0), unwritten", x -> x.valueOf(3, 0));
    }

    private static void doesBear() {
        for (Scene scene : FIRST_THREE) {
            for (int losses : new int[] {-1, 4, HIGHEST, LOWEST}) {
                due.promise(27);
                refused(scene, ARGUMENT, "doesBear(" + losses + ")", x -> x.doesBear(losses));
                due.promise(28);
                refused(scene, ARGUMENT, "doesBearByTrying(" + losses + ")",
                        x -> x.doesBearByTrying(losses));
            }
        }
    }

    private static void stateOfDisk() {
        due.promise(29);
        refused(MIXED, STATE, "fail(3), failed", x -> x.fail(3));
        due.promise(30);
        refused(MIXED, STATE, "replace(0), replaced", x -> x.replace(0));
        refused(MIXED, STATE, "replace(1), sound", x -> x.replace(1));
        refused(MIXED, STATE, "replace(2), warned of", x -> x.replace(2));
        refused(FULL, STATE, "replace(7), sound", x -> x.replace(7));
        due.promise(31);
        refused(MIXED, STATE, "warn(2), warned of", x -> x.warn(2));
        refused(MIXED, STATE, "warn(3), failed", x -> x.warn(3));
        due.promise(33);
        refused(MIXED, STATE, "scrub(3), failed", x -> x.scrub(3));
    }

    private static void rot() {
        due.promise(32);
        noSlot(MIXED, 0, -1, 6, 31, 32, HIGHEST, LOWEST);
        noSlot(MIXED, 1, -1, 6, 32);
        noSlot(MIXED, 2, -1, 6);
        noSlot(MIXED, 3, -1, 3);
        noSlot(MIXED, 4, -1, 1);
        noSlot(FULL, 0, -1, 32);
        noSlot(FULL, 7, -1, 32, DISK_THAT_WRAPS);
        refused(MIXED, ELEMENT, "rot(0, 4), free", x -> x.rot(0, 4));
        refused(MIXED, ELEMENT, "rot(0, 5), free", x -> x.rot(0, 5));
        refused(MIXED, ELEMENT, "rot(2, 1), its copy was moved", x -> x.rot(2, 1));
        refused(MIXED, ELEMENT, "rot(3, 0), failed", x -> x.rot(3, 0));
        refused(MIXED, ELEMENT, "rot(3, 2), failed", x -> x.rot(3, 2));
    }

    private static void noSlot(Scene scene, int disk, int... slots) {
        for (int slot : slots) {
            refused(scene, INDEX, "rot(" + disk + ", " + slot + ")", x -> x.rot(disk, slot));
        }
    }

    private static void meanCopies() {
        due.promise(37);
        refused(EMPTY, ARITHMETIC, "meanCopies()", x -> x.meanCopies());
        refused(ASKED_OUT, ARITHMETIC, "meanCopies(), only read", x -> x.meanCopies());
    }

    private static void usedShare() {
        due.promise(38);
        refused(EMPTY, ARITHMETIC, "usedShare()", x -> x.usedShare());
        refused(Scene.allFailed(), ARITHMETIC, "usedShare()", x -> x.usedShare());
    }

    private static void lineAt() {
        due.promise(41);
        refusedOn(EMPTY, "lineAt", VolumeShepherd::lineAt, 0, -1);
        refusedOn(MIXED, "lineAt", VolumeShepherd::lineAt, -1, 23, 192, HIGHEST, LOWEST);
        refusedOn(FULL, "lineAt", VolumeShepherd::lineAt, -1, 154);
    }
}
