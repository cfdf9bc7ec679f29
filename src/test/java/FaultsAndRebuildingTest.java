import java.util.NoSuchElementException;

/** Promises 29 to 36, and what the terms say of rebuilding. */
public final class FaultsAndRebuildingTest {
    private static final Due due = new Due();

    public static void main(String[] args) {
        fail();
        replace();
        warn();
        rot();
        scrub();
        rottenOn();
        rottenBehindFreeSlots();
        rebuildsInOrder();
        rebuildsBeforeMoves();
        rebuildsWhatHasPlaces();
        movesOldestFirst();
        hurryIsShared();
        movedCopyIsGood();
        lostBlocksAreLeft();
        firstWrittenStays();
        openRebuildsChangesNothing();
        openRebuildsOfFewPlaces();
        noSuchDisk();
        due.end();
    }

    private static void fail() {
        due.promise(29);
        VolumeShepherd x = Steps.array(4, 4);
        x.addTenant(2, 0);
        Steps.put(x, 0, 0, 1);
        Steps.put(x, 0, 1, 1);
        x.rot(0, 0);
        due.is("fail(0)", x.fail(0), 2);
        due.is("diskState(0)", x.diskState(0), 'f');
        due.is("usedOn(0)", x.usedOn(0), 0);
        due.is("rottenOn(0)", x.rottenOn(0), 0);
        due.is("copiesOf(0, 0)", x.copiesOf(0, 0), 1);
        due.is("diskOfCopy(0, 0, 0)", x.diskOfCopy(0, 0, 0), 1);
        due.is("isConsistent()", x.isConsistent(), true);
        due.isThrown("fail(0) again", IllegalStateException.class, () -> x.fail(0));
        x.warn(1);
        due.is("fail(1), warned of", x.fail(1), 2);
        due.is("diskState(1)", x.diskState(1), 'f');
        x.replace(0);
        due.is("fail(0), replaced", x.fail(0), 0);
    }

    private static void replace() {
        due.promise(30);
        VolumeShepherd x = Steps.array(4, 3, 2);
        x.addTenant(1, 0);
        Steps.put(x, 0, 0, 1);
        due.isThrown("replace(0), sound", IllegalStateException.class, () -> x.replace(0));
        x.warn(1);
        due.isThrown("replace(1), warned of", IllegalStateException.class, () -> x.replace(1));
        x.fail(0);
        due.is("replace(0)", x.replace(0), 2);
        due.is("diskState(0)", x.diskState(0), 's');
        due.is("usedOn(0)", x.usedOn(0), 0);
        due.isThrown("replace(0) again", IllegalStateException.class, () -> x.replace(0));
        x.fail(1);
        x.fail(2);
        due.is("replace(2)", x.replace(2), 2);
        due.is("replace(1), with as many slots", x.replace(1), 3);
        for (int block = 1; block <= 10; block++) {
            x.write(0, block, 1);
        }
        x.pass(1);
        due.is("usedOn(0)", x.usedOn(0), 4);
        due.is("usedOn(1)", x.usedOn(1), 3);
        due.is("usedOn(2)", x.usedOn(2), 2);
    }

    private static void warn() {
        due.promise(31);
        VolumeShepherd x = Steps.array(4, 4);
        x.addTenant(2, 0);
        Steps.put(x, 0, 0, 1);
        Steps.put(x, 0, 1, 1);
        due.is("warn(0)", x.warn(0), 2);
        due.is("diskState(0)", x.diskState(0), 'w');
        due.is("usedOn(0)", x.usedOn(0), 2);
        due.isThrown("warn(0) again", IllegalStateException.class, () -> x.warn(0));
        x.fail(1);
        due.isThrown("warn(1), failed", IllegalStateException.class, () -> x.warn(1));
        due.is("diskState(1)", x.diskState(1), 'f');
        x.replace(1);
        due.is("warn(1), replaced", x.warn(1), 0);
    }

    private static void rot() {
        due.promise(32);
        VolumeShepherd x = Steps.array(2, 32);
        x.addTenant(2, 0);
        Steps.put(x, 0, 0, 1);
        due.is("rot(0, 0)", x.rot(0, 0), false);
        due.is("rot(0, 0) again", x.rot(0, 0), true);
        due.is("rottenOn(0)", x.rottenOn(0), 1);
        due.is("rottenOn(1)", x.rottenOn(1), 0);
        due.isThrown("rot(0, 1), free", NoSuchElementException.class, () -> x.rot(0, 1));
        due.isThrown("rot(1, 31), free", NoSuchElementException.class, () -> x.rot(1, 31));
        int[] wrong = {-1, 2, 31, 32, Integer.MAX_VALUE, Integer.MIN_VALUE};
        for (int slot : wrong) {
            due.isThrown("rot(0, " + slot + ")", IndexOutOfBoundsException.class,
                    () -> x.rot(0, slot));
        }
        due.isThrown("rot(1, 32)", IndexOutOfBoundsException.class, () -> x.rot(1, 32));
        x.warn(0);
        due.is("rot(0, 0) on a disk warned of", x.rot(0, 0), true);
        x.fail(0);
        due.isThrown("rot(0, 0), failed", NoSuchElementException.class, () -> x.rot(0, 0));
        due.isThrown("rot(0, 2), failed", IndexOutOfBoundsException.class,
                () -> x.rot(0, 2));
    }

    private static void scrub() {
        due.promise(33);
        VolumeShepherd x = Steps.array(4, 4);
        x.addTenant(2, 0);
        for (int block = 0; block < 3; block++) {
            Steps.put(x, 0, block, block);
        }
        due.is("scrub(0), nothing rotten", x.scrub(0), 0);
        x.rot(0, 0);
        x.rot(0, 1);
        x.rot(0, 2);
        x.rot(1, 1);
        due.is("scrub(0), one is lost", x.scrub(0), 2);
        due.is("rottenOn(0)", x.rottenOn(0), 1);
        due.is("isLost(0, 1)", x.isLost(0, 1), true);
        due.is("scrub(0) again", x.scrub(0), 0);
        x.rot(1, 0);
        x.warn(1);
        due.is("scrub(1), warned of", x.scrub(1), 1);
        due.is("diskState(1)", x.diskState(1), 'w');
        due.is("rottenOn(1)", x.rottenOn(1), 1);
        x.fail(1);
        due.isThrown("scrub(1), failed", IllegalStateException.class, () -> x.scrub(1));
        x.replace(1);
        due.is("scrub(1), replaced", x.scrub(1), 0);
    }

    private static void rottenOn() {
        due.promise(34);
        VolumeShepherd x = Steps.array(4, 4);
        x.addTenant(1, 0);
        x.addTenant(2, 0);
        Steps.put(x, 1, 0, 1);
        Steps.put(x, 1, 1, 1);
        due.is("rottenOn(0)", x.rottenOn(0), 0);
        x.rot(0, 0);
        x.rot(0, 1);
        x.rot(1, 1);
        due.is("rottenOn(0)", x.rottenOn(0), 2);
        due.is("rottenOn(1)", x.rottenOn(1), 1);
        Steps.put(x, 1, 0, 2);
        due.is("rottenOn(0) after a write", x.rottenOn(0), 1);
        x.fail(0);
        due.is("rottenOn(0), failed", x.rottenOn(0), 0);
        x.replace(0);
        due.is("rottenOn(0), replaced", x.rottenOn(0), 0);
    }

    /** A lost block that is written anew leaves the first slots free. */
    private static void rottenBehindFreeSlots() {
        VolumeShepherd x = Steps.array(3, 3);
        x.addTenant(2, 0);
        for (int block = 0; block < 3; block++) {
            Steps.put(x, 0, block, block);
        }
        x.addDisk(32);
        x.addDisk(32);
        for (int slot = 0; slot < 2; slot++) {
            x.rot(0, slot);
            x.rot(1, slot);
            Steps.put(x, 0, slot, 5);
        }
        x.rot(0, 2);
        due.promise(34);
        due.is("disk 0", Steps.lineOf(x, 0), "s 0.2!");
        due.is("rottenOn(0), in the last slot", x.rottenOn(0), 1);
        due.promise(33);
        due.is("scrub(0), in the last slot", x.scrub(0), 1);
        due.is("disk 0", Steps.lineOf(x, 0), "s 0.2");
        due.is("scrub(1), nothing rotten", x.scrub(1), 0);
        due.promise(29);
        due.is("fail(1), in the last slot", x.fail(1), 1);
        due.is("copiesOf(0, 2)", x.copiesOf(0, 2), 1);
        due.is("usedOn(1)", x.usedOn(1), 0);
    }

    /** The order of the first writes, not that of the numbers. */
    private static void rebuildsInOrder() {
        due.promise(35);
        VolumeShepherd x = Steps.array(9, 9);
        x.addTenant(2, 0);
        x.addTenant(2, 0);
        Steps.put(x, 1, 5, 1);
        Steps.put(x, 0, 9, 1);
        Steps.put(x, 0, 2, 1);
        Steps.put(x, 1, 5, 2);
        x.fail(1);
        x.replace(1);
        x.setHurry(4);
        due.is("rebuilt()", x.rebuilt(), 0);
        x.pass(1);
        due.is("rebuilt()", x.rebuilt(), 2);
        due.is("disk 1", Steps.lineOf(x, 1), "s 1.5 0.9");
        x.pass(1);
        due.is("rebuilt()", x.rebuilt(), 3);
        due.is("disk 1", Steps.lineOf(x, 1), "s 1.5 0.9 0.2");
        x.pass(2);
        due.is("rebuilt()", x.rebuilt(), 3);
        due.is("openRebuilds()", x.openRebuilds(), 0);
    }

    /** Degraded blocks come first, also those that were written last. */
    private static void rebuildsBeforeMoves() {
        VolumeShepherd x = Steps.array(4, 4, 1);
        x.addTenant(1, 0);
        x.addTenant(2, 0);
        Steps.put(x, 0, 0, 1);
        Steps.put(x, 1, 0, 1);
        due.is("diskOfCopy(0, 0, 0)", x.diskOfCopy(0, 0, 0), 0);
        x.fail(1);
        x.warn(0);
        due.promise(36);
        due.is("openRebuilds(), one place for one of three", x.openRebuilds(), 1);
        due.promise(35);
        x.pass(1);
        due.is("rebuilt()", x.rebuilt(), 1);
        due.is("disk 2", Steps.lineOf(x, 2), "s 1.0");
        due.is("disk 0", Steps.lineOf(x, 0), "w 0.0 1.0");
    }

    private static void rebuildsWhatHasPlaces() {
        due.promise(35);
        VolumeShepherd x = Steps.array(4, 4, 4);
        x.addTenant(3, 0);
        Steps.put(x, 0, 0, 1);
        Steps.put(x, 0, 1, 1);
        x.fail(1);
        x.fail(2);
        x.pass(1);
        due.is("rebuilt(), no place", x.rebuilt(), 0);
        due.is("copiesOf(0, 0)", x.copiesOf(0, 0), 1);
        x.replace(2);
        x.pass(1);
        due.is("rebuilt(), one place for each", x.rebuilt(), 2);
        due.is("copiesOf(0, 0), still degraded", x.copiesOf(0, 0), 2);
        x.addDisk(1);
        x.pass(1);
        due.is("rebuilt(), one slot for two", x.rebuilt(), 3);
        due.is("copiesOf(0, 0)", x.copiesOf(0, 0), 3);
        due.is("copiesOf(0, 1)", x.copiesOf(0, 1), 2);
    }

    private static void movesOldestFirst() {
        due.promise(35);
        VolumeShepherd x = Steps.array(3, 3, 3, 1, 2);
        x.addTenant(3, 0);
        Steps.put(x, 0, 0, 1);
        x.warn(0);
        x.warn(1);
        x.setHurry(3);
        due.promise(36);
        due.is("openRebuilds()", x.openRebuilds(), 2);
        due.promise(35);
        x.pass(1);
        due.is("rebuilt()", x.rebuilt(), 1);
        due.is("diskOfCopy(0, 0, 0)", x.diskOfCopy(0, 0, 0), 1);
        due.is("diskOfCopy(0, 0, 1)", x.diskOfCopy(0, 0, 1), 2);
        due.is("diskOfCopy(0, 0, 2)", x.diskOfCopy(0, 0, 2), 4);
        x.setHurry(20);
        x.pass(1);
        due.is("rebuilt()", x.rebuilt(), 2);
        due.is("diskOfCopy(0, 0, 0)", x.diskOfCopy(0, 0, 0), 2);
        due.is("diskOfCopy(0, 0, 1)", x.diskOfCopy(0, 0, 1), 4);
        due.is("diskOfCopy(0, 0, 2)", x.diskOfCopy(0, 0, 2), 3);
        due.is("usedOn(0)", x.usedOn(0), 0);
        due.is("usedOn(1)", x.usedOn(1), 0);
        due.is("diskState(0), still warned of", x.diskState(0), 'w');
    }

    /** The copies that are made and those that are moved share the hurry. */
    private static void hurryIsShared() {
        due.promise(35);
        VolumeShepherd x = Steps.array(32, 32, 32);
        x.addTenant(3, 0);
        for (int block = 0; block < 3; block++) {
            Steps.put(x, 0, block, block);
        }
        x.fail(0);
        x.addDisk(32);
        x.warn(1);
        x.setHurry(8);
        x.pass(1);
        due.is("rebuilt(), three made, none moved without a place", x.rebuilt(), 3);
        x.replace(0);
        x.pass(1);
        due.is("rebuilt(), three moved", x.rebuilt(), 6);
        x.fail(2);
        x.replace(2);
        x.warn(3);
        x.addDisk(32);
        due.is("openRebuilds()", x.openRebuilds(), 6);
        x.pass(1);
        due.is("rebuilt(), three made, one moved", x.rebuilt(), 10);
        due.is("usedOn(3)", x.usedOn(3), 2);
        x.setHurry(2);
        x.pass(1);
        due.is("rebuilt(), one moved", x.rebuilt(), 11);
        due.is("usedOn(3)", x.usedOn(3), 1);
    }

    private static void movedCopyIsGood() {
        due.promise(35);
        VolumeShepherd x = Steps.array(3, 3, 3);
        x.addTenant(2, 0);
        Steps.put(x, 0, 0, 6);
        x.rot(0, 0);
        x.warn(0);
        x.pass(1);
        due.is("rebuilt()", x.rebuilt(), 1);
        due.is("disk 0", Steps.lineOf(x, 0), "w");
        due.is("disk 2", Steps.lineOf(x, 2), "s 0.0");
        x.fail(1);
        due.is("valueOf(0, 0) of the moved copy", x.valueOf(0, 0), 6);
        VolumeShepherd y = Steps.array(3, 3, 3);
        y.addTenant(3, 0);
        Steps.put(y, 0, 0, 6);
        y.rot(0, 0);
        y.fail(1);
        y.replace(1);
        y.pass(1);
        due.is("disk 0, still rotten", Steps.lineOf(y, 0), "s 0.0!");
        due.is("disk 1, made from the good one", Steps.lineOf(y, 1), "s 0.0");
    }

    private static void lostBlocksAreLeft() {
        due.promise(36);
        VolumeShepherd x = Steps.array(3, 3, 3);
        x.addTenant(2, 0);
        Steps.put(x, 0, 0, 6);
        x.rot(0, 0);
        x.fail(1);
        x.warn(0);
        due.is("openRebuilds() of a lost block", x.openRebuilds(), 0);
        x.pass(1);
        due.is("rebuilt()", x.rebuilt(), 0);
        due.is("disk 0", Steps.lineOf(x, 0), "w 0.0!");
    }

    /** A block that was lost and written again keeps its turn. */
    private static void firstWrittenStays() {
        due.promise(35);
        VolumeShepherd x = Steps.array(9, 9);
        x.addTenant(2, 0);
        Steps.put(x, 0, 0, 1);
        Steps.put(x, 0, 1, 1);
        x.rot(0, 0);
        x.rot(1, 0);
        Steps.put(x, 0, 0, 2);
        x.fail(1);
        x.replace(1);
        x.setHurry(2);
        x.pass(1);
        due.is("disk 1", Steps.lineOf(x, 1), "s 0.0");
        VolumeShepherd y = Steps.array(9);
        y.addTenant(2, 0);
        Steps.put(y, 0, 0, 1);
        y.addDisk(9);
        Steps.put(y, 0, 1, 1);
        Steps.put(y, 0, 0, 1);
        y.fail(0);
        y.replace(0);
        y.setHurry(2);
        y.pass(1);
        due.is("disk 0, a refused write is no first one", Steps.lineOf(y, 0), "s 0.1");
    }

    private static void openRebuildsChangesNothing() {
        due.promise(36);
        VolumeShepherd x = Steps.array(9, 9, 9);
        x.addTenant(3, 0);
        for (int block = 0; block < 4; block++) {
            Steps.put(x, 0, block, block);
        }
        x.fail(2);
        x.addDisk(9);
        x.replace(2);
        x.warn(0);
        x.setHurry(0);
        due.is("openRebuilds(), four made, four moved", x.openRebuilds(), 8);
        due.is("openRebuilds() again", x.openRebuilds(), 8);
        due.is("usedOn(0)", x.usedOn(0), 4);
        due.is("usedOn(3)", x.usedOn(3), 0);
        due.is("rebuilt()", x.rebuilt(), 0);
        x.setHurry(20);
        x.pass(1);
        due.is("rebuilt()", x.rebuilt(), 8);
        due.is("openRebuilds()", x.openRebuilds(), 0);
        x.fail(3);
        due.is("openRebuilds(), no place", x.openRebuilds(), 0);
        x.fail(0);
        x.replace(0);
        due.is("openRebuilds(), a place for each", x.openRebuilds(), 4);
    }

    /** What the first time takes is no place for the second time. */
    private static void openRebuildsOfFewPlaces() {
        due.promise(36);
        VolumeShepherd x = Steps.array(9, 9, 3);
        x.addTenant(2, 0);
        for (int block = 0; block < 4; block++) {
            Steps.put(x, 0, block, block);
        }
        due.is("disk 2", Steps.lineOf(x, 2), "s");
        x.fail(1);
        due.is("openRebuilds(), four for three slots", x.openRebuilds(), 3);
        x.addDisk(2);
        due.is("openRebuilds()", x.openRebuilds(), 4);
        x.warn(0);
        due.is("openRebuilds(), four made, one moved", x.openRebuilds(), 5);
    }

    private static void noSuchDisk() {
        VolumeShepherd none = new VolumeShepherd();
        isNoDisk(none, 0);
        VolumeShepherd x = Steps.array(3, 3);
        int[] wrong = {-1, 2, 8, Integer.MAX_VALUE, Integer.MIN_VALUE};
        for (int disk : wrong) {
            isNoDisk(x, disk);
        }
    }

    private static void isNoDisk(VolumeShepherd x, int disk) {
        Class<IndexOutOfBoundsException> want = IndexOutOfBoundsException.class;
        due.promise(29);
        due.isThrown("fail(" + disk + ")", want, () -> x.fail(disk));
        due.promise(30);
        due.isThrown("replace(" + disk + ")", want, () -> x.replace(disk));
        due.promise(31);
        due.isThrown("warn(" + disk + ")", want, () -> x.warn(disk));
        due.promise(32);
        due.isThrown("rot(" + disk + ", 0)", want, () -> x.rot(disk, 0));
        due.promise(33);
        due.isThrown("scrub(" + disk + ")", want, () -> x.scrub(disk));
        due.promise(34);
        due.isThrown("rottenOn(" + disk + ")", want, () -> x.rottenOn(disk));
    }
}
