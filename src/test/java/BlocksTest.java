import java.util.NoSuchElementException;

/** Promises 19 to 28. */
public final class BlocksTest {
    private static final Due due = new Due();

    public static void main(String[] args) {
        blocksOf();
        copies();
        diskOfCopy();
        places();
        valueOf();
        isLost();
        lostAndDegraded();
        bear();
        bearFewDisks();
        noSuchBlock();
        due.end();
    }

    private static void blocksOf() {
        due.promise(19);
        VolumeShepherd x = Steps.array(9, 9);
        x.addTenant(2, 0);
        x.addTenant(1, 0);
        due.is("blocksOf(0)", x.blocksOf(0), 0);
        Steps.put(x, 0, 0, 1);
        Steps.put(x, 0, 99, 1);
        Steps.put(x, 0, 0, 2);
        Steps.put(x, 1, 0, 1);
        due.is("blocksOf(0)", x.blocksOf(0), 2);
        due.is("blocksOf(1)", x.blocksOf(1), 1);
        x.fail(0);
        x.fail(1);
        due.is("blocksOf(0), lost ones", x.blocksOf(0), 2);
        x.read(1, 5);
        x.write(1, 6, 1);
        x.pass(1);
        due.is("blocksOf(1) after a refused write", x.blocksOf(1), 1);
        x.replace(0);
        x.replace(1);
        Steps.put(x, 0, 0, 3);
        due.is("blocksOf(0), a lost one written", x.blocksOf(0), 2);
        int[] wrong = {-1, 2, 4, Integer.MAX_VALUE, Integer.MIN_VALUE};
        for (int tenant : wrong) {
            due.isThrown("blocksOf(" + tenant + ")", IndexOutOfBoundsException.class,
                    () -> x.blocksOf(tenant));
        }
    }

    private static void copies() {
        VolumeShepherd x = Steps.array(4, 4, 4, 4);
        x.addTenant(3, 0);
        x.addTenant(1, 0);
        x.setHurry(0);
        areCopies(x, 0, 50, 0);
        Steps.put(x, 0, 50, 1);
        Steps.put(x, 1, 50, 1);
        areCopies(x, 0, 50, 3);
        areCopies(x, 1, 50, 1);
        areCopies(x, 0, 49, 0);
        x.rot(0, 0);
        areCopies(x, 0, 50, 3);
        x.fail(1);
        areCopies(x, 0, 50, 2);
        Steps.put(x, 0, 50, 2);
        areCopies(x, 0, 50, 2);
        x.setHurry(2);
        x.pass(1);
        areCopies(x, 0, 50, 3);
        x.fail(0);
        x.fail(2);
        x.fail(3);
        areCopies(x, 0, 50, 0);
        areCopies(x, 1, 50, 0);
    }

    private static void areCopies(VolumeShepherd x, int tenant, int block, int want) {
        due.promise(20);
        due.is("copiesOf(" + tenant + ", " + block + ")", x.copiesOf(tenant, block), want);
        due.promise(21);
        due.is("copiesByDisks(" + tenant + ", " + block + ")", x.copiesByDisks(tenant, block),
                want);
    }

    private static void diskOfCopy() {
        due.promise(22);
        VolumeShepherd x = Steps.array(3, 5, 4, 1);
        x.addTenant(3, 0);
        Steps.put(x, 0, 1, 1);
        due.is("diskOfCopy(0, 1, 0)", x.diskOfCopy(0, 1, 0), 1);
        due.is("diskOfCopy(0, 1, 1)", x.diskOfCopy(0, 1, 1), 2);
        due.is("diskOfCopy(0, 1, 2)", x.diskOfCopy(0, 1, 2), 0);
        int[] wrong = {-1, 3, Integer.MAX_VALUE, Integer.MIN_VALUE};
        for (int index : wrong) {
            due.isThrown("diskOfCopy(0, 1, " + index + ")", NoSuchElementException.class,
                    () -> x.diskOfCopy(0, 1, index));
        }
        due.isThrown("diskOfCopy(0, 2, 0), unwritten", NoSuchElementException.class,
                () -> x.diskOfCopy(0, 2, 0));
        x.fail(1);
        due.is("diskOfCopy(0, 1, 0), the next oldest", x.diskOfCopy(0, 1, 0), 2);
        due.is("diskOfCopy(0, 1, 1), the next oldest", x.diskOfCopy(0, 1, 1), 0);
        due.isThrown("diskOfCopy(0, 1, 2), gone", NoSuchElementException.class,
                () -> x.diskOfCopy(0, 1, 2));
        x.pass(1);
        due.is("diskOfCopy(0, 1, 2), the newest one", x.diskOfCopy(0, 1, 2), 3);
        x.replace(1);
        x.warn(2);
        x.pass(1);
        due.is("diskOfCopy(0, 1, 0), after a move", x.diskOfCopy(0, 1, 0), 0);
        due.is("diskOfCopy(0, 1, 1), after a move", x.diskOfCopy(0, 1, 1), 3);
        due.is("diskOfCopy(0, 1, 2), moved", x.diskOfCopy(0, 1, 2), 1);
    }

    private static void places() {
        due.promise(22);
        VolumeShepherd x = Steps.array(2, 3, 3);
        x.addTenant(1, 0);
        int[] disks = {1, 2, 0, 1, 2, 0, 1, 2};
        for (int block = 0; block < 8; block++) {
            Steps.put(x, 0, block, block);
            due.is("diskOfCopy(0, " + block + ", 0)", x.diskOfCopy(0, block, 0), disks[block]);
        }
        x.write(0, 8, 8);
        x.pass(1);
        due.is("stateOf(8), no slot is free", x.stateOf(8), 'x');
        VolumeShepherd y = Steps.array(9, 8, 2);
        y.addTenant(1, 0);
        y.warn(0);
        Steps.put(y, 0, 0, 0);
        due.is("diskOfCopy, not on a disk warned of", y.diskOfCopy(0, 0, 0), 1);
        y.fail(1);
        Steps.put(y, 0, 1, 0);
        due.is("diskOfCopy, not on a failed disk", y.diskOfCopy(0, 1, 0), 2);
    }

    private static void valueOf() {
        due.promise(23);
        VolumeShepherd x = Steps.array(4, 4);
        x.addTenant(2, 0);
        due.isThrown("valueOf(0, 0), unwritten", NoSuchElementException.class,
                () -> x.valueOf(0, 0));
        x.write(0, 0, 7);
        due.isThrown("valueOf(0, 0), not served", NoSuchElementException.class,
                () -> x.valueOf(0, 0));
        x.pass(1);
        due.is("valueOf(0, 0)", x.valueOf(0, 0), 7);
        x.rot(0, 0);
        due.is("valueOf(0, 0), a rotten copy", x.valueOf(0, 0), 7);
        x.rot(1, 0);
        due.isThrown("valueOf(0, 0), lost", NoSuchElementException.class,
                () -> x.valueOf(0, 0));
        Steps.put(x, 0, 0, 0);
        due.is("valueOf(0, 0), zero", x.valueOf(0, 0), 0);
        Steps.put(x, 0, 0, 9999);
        due.is("valueOf(0, 0)", x.valueOf(0, 0), 9999);
        x.fail(0);
        x.fail(1);
        due.isThrown("valueOf(0, 0), no copy", NoSuchElementException.class,
                () -> x.valueOf(0, 0));
    }

    private static void isLost() {
        due.promise(24);
        VolumeShepherd x = Steps.array(4, 4);
        x.addTenant(2, 0);
        due.is("isLost(0, 0), unwritten", x.isLost(0, 0), false);
        Steps.put(x, 0, 0, 7);
        due.is("isLost(0, 0)", x.isLost(0, 0), false);
        x.rot(0, 0);
        due.is("isLost(0, 0), one rotten", x.isLost(0, 0), false);
        x.fail(1);
        due.is("isLost(0, 0), the good one gone", x.isLost(0, 0), true);
        due.is("isLost(0, 1), unwritten", x.isLost(0, 1), false);
        x.fail(0);
        due.is("isLost(0, 0), all gone", x.isLost(0, 0), true);
        x.replace(0);
        x.replace(1);
        x.pass(3);
        due.is("isLost(0, 0), not rebuilt", x.isLost(0, 0), true);
        due.is("copiesOf(0, 0), not rebuilt", x.copiesOf(0, 0), 0);
        Steps.put(x, 0, 0, 8);
        due.is("isLost(0, 0), written", x.isLost(0, 0), false);
    }

    private static void lostAndDegraded() {
        VolumeShepherd x = Steps.array(4, 4, 4);
        x.addTenant(2, 0);
        x.addTenant(1, 0);
        x.setHurry(0);
        Steps.put(x, 0, 0, 1);
        Steps.put(x, 0, 1, 1);
        Steps.put(x, 1, 0, 1);
        areLostAndDegraded(x, 0, 0);
        x.rot(0, 0);
        areLostAndDegraded(x, 0, 0);
        x.rot(1, 0);
        areLostAndDegraded(x, 1, 0);
        x.fail(2);
        areLostAndDegraded(x, 1, 1);
        x.fail(1);
        areLostAndDegraded(x, 2, 3);
        x.fail(0);
        areLostAndDegraded(x, 3, 3);
        x.replace(0);
        Steps.put(x, 1, 0, 1);
        areLostAndDegraded(x, 2, 2);
    }

    private static void areLostAndDegraded(VolumeShepherd x, int lost, int degraded) {
        due.promise(25);
        due.is("lostBlocks()", x.lostBlocks(), lost);
        due.promise(26);
        due.is("degradedBlocks()", x.degradedBlocks(), degraded);
    }

    private static void bear() {
        VolumeShepherd x = Steps.array(9, 9, 9, 9);
        x.addTenant(3, 0);
        x.addTenant(2, 0);
        doBear(x, true, true, true, true);
        Steps.put(x, 0, 0, 1);
        doBear(x, true, true, true, false);
        Steps.put(x, 1, 0, 1);
        doBear(x, true, true, false, false);
        x.warn(3);
        x.setHurry(0);
        doBear(x, true, true, false, false);
        x.rot(3, 0);
        doBear(x, true, false, false, false);
        x.rot(0, 1);
        due.is("isLost(1, 0)", x.isLost(1, 0), true);
        doBear(x, true, true, true, false);
        x.fail(0);
        doBear(x, true, true, false, false);
        int[] wrong = {-1, 4, Integer.MAX_VALUE, Integer.MIN_VALUE};
        for (int losses : wrong) {
            due.promise(27);
            due.isThrown("doesBear(" + losses + ")", IllegalArgumentException.class,
                    () -> x.doesBear(losses));
            due.promise(28);
            due.isThrown("doesBearByTrying(" + losses + ")", IllegalArgumentException.class,
                    () -> x.doesBearByTrying(losses));
        }
        due.is("isConsistent(), nothing failed by trying", x.isConsistent(), true);
        due.is("copiesOf(0, 0)", x.copiesOf(0, 0), 2);
    }

    private static void doBear(VolumeShepherd x, boolean... bears) {
        for (int losses = 0; losses < bears.length; losses++) {
            due.promise(27);
            due.is("doesBear(" + losses + ")", x.doesBear(losses), bears[losses]);
            due.promise(28);
            due.is("doesBearByTrying(" + losses + ")", x.doesBearByTrying(losses),
                    bears[losses]);
        }
    }

    private static void bearFewDisks() {
        VolumeShepherd x = Steps.array(3);
        x.addTenant(1, 0);
        doBear(x, true, true, true, true);
        Steps.put(x, 0, 0, 1);
        doBear(x, true, false, false, false);
        x.fail(0);
        doBear(x, true, true, true, true);
        VolumeShepherd y = Steps.array(3, 3, 3);
        y.addTenant(2, 0);
        Steps.put(y, 0, 0, 1);
        y.fail(2);
        doBear(y, true, true, false, false);
    }

    private static void noSuchBlock() {
        VolumeShepherd x = Steps.array(4);
        isNoBlock(x, 0, 0);
        x.addTenant(1, 0);
        x.addTenant(1, 0);
        Steps.put(x, 0, 0, 1);
        int[][] wrong = {{-1, 0}, {2, 0}, {4, 0}, {0, -1}, {0, 100}, {1, -1}, {2, 100},
            {Integer.MAX_VALUE, 0}, {Integer.MIN_VALUE, 0}, {0, Integer.MAX_VALUE},
            {0, Integer.MIN_VALUE}};
        for (int[] pair : wrong) {
            isNoBlock(x, pair[0], pair[1]);
        }
    }

    private static void isNoBlock(VolumeShepherd x, int tenant, int block) {
        Class<IndexOutOfBoundsException> want = IndexOutOfBoundsException.class;
        String of = "Of(" + tenant + ", " + block + ")";
        due.promise(20);
        due.isThrown("copies" + of, want, () -> x.copiesOf(tenant, block));
        due.promise(21);
        due.isThrown("copiesByDisks" + of, want, () -> x.copiesByDisks(tenant, block));
        due.promise(22);
        due.isThrown("diskOfCopy" + of, want, () -> x.diskOfCopy(tenant, block, 0));
        due.isThrown("diskOfCopy" + of, want, () -> x.diskOfCopy(tenant, block, -1));
        due.promise(23);
        due.isThrown("value" + of, want, () -> x.valueOf(tenant, block));
        due.promise(24);
        due.isThrown("isLost" + of, want, () -> x.isLost(tenant, block));
    }
}
