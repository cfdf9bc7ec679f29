/** Promises 1 to 8. */
public final class DisksAndTenantsTest {
    private static final Due due = new Due();

    public static void main(String[] args) {
        newObject();
        addDisk();
        diskCount();
        diskState();
        usedOn();
        addTenant();
        tenantCount();
        setHurry();
        due.end();
    }

    private static void newObject() {
        due.promise(1);
        VolumeShepherd x = new VolumeShepherd();
        due.is("diskCount()", x.diskCount(), 0);
        due.is("tenantCount()", x.tenantCount(), 0);
        due.is("clock()", x.clock(), 0);
        due.is("rebuilt()", x.rebuilt(), 0);
        due.is("lostBlocks()", x.lostBlocks(), 0);
        due.is("degradedBlocks()", x.degradedBlocks(), 0);
        due.is("openRebuilds()", x.openRebuilds(), 0);
        due.is("isConsistent()", x.isConsistent(), true);
        due.is("setHurry(10)", x.setHurry(10), 10);
        VolumeShepherd other = new VolumeShepherd();
        other.addDisk(1);
        due.is("diskCount() beside another object", x.diskCount(), 0);
    }

    private static void addDisk() {
        due.promise(2);
        VolumeShepherd x = new VolumeShepherd();
        int[] wrong = {0, 33, -1, Integer.MAX_VALUE, Integer.MIN_VALUE};
        for (int slots : wrong) {
            due.isThrown("addDisk(" + slots + ")", IllegalArgumentException.class,
                    () -> x.addDisk(slots));
        }
        due.is("diskCount() after the refusals", x.diskCount(), 0);
        for (int disk = 0; disk < 8; disk++) {
            int slots = disk % 2 == 0 ? 1 : 32;
            due.is("addDisk(" + slots + ")", x.addDisk(slots), disk);
            due.is("diskState(" + disk + ")", x.diskState(disk), 's');
            due.is("usedOn(" + disk + ")", x.usedOn(disk), 0);
        }
        due.isThrown("ninth addDisk(1)", IllegalStateException.class, () -> x.addDisk(1));
        due.isThrown("ninth addDisk(0)", IllegalArgumentException.class, () -> x.addDisk(0));
        due.isThrown("ninth addDisk(33)", IllegalArgumentException.class, () -> x.addDisk(33));
        due.is("diskCount()", x.diskCount(), 8);
        x.fail(3);
        due.isThrown("addDisk(1) with a failed one", IllegalStateException.class,
                () -> x.addDisk(1));
        oneSlotHoldsOneCopy();
    }

    private static void oneSlotHoldsOneCopy() {
        VolumeShepherd x = new VolumeShepherd();
        x.addDisk(1);
        x.addTenant(1, 0);
        x.write(0, 0, 1);
        x.write(0, 1, 2);
        x.pass(1);
        due.is("state of the first write", x.stateOf(0), 'd');
        due.is("state of the second write", x.stateOf(1), 'x');
        VolumeShepherd y = new VolumeShepherd();
        y.addDisk(32);
        y.addTenant(1, 0);
        for (int block = 0; block < 33; block++) {
            y.write(0, block, block);
        }
        y.pass(2);
        due.is("usedOn(0) of 32 slots", y.usedOn(0), 32);
        due.is("state of the 32nd write", y.stateOf(31), 'd');
        due.is("state of the 33rd write", y.stateOf(32), 'x');
    }

    private static void diskCount() {
        due.promise(3);
        VolumeShepherd x = new VolumeShepherd();
        for (int count = 0; count <= 8; count++) {
            due.is("diskCount()", x.diskCount(), count);
            if (count < 8) {
                x.addDisk(count + 1);
            }
        }
        x.fail(0);
        x.warn(1);
        due.is("diskCount() with a failed one", x.diskCount(), 8);
    }

    private static void diskState() {
        due.promise(4);
        VolumeShepherd x = new VolumeShepherd();
        due.isThrown("diskState(0) of none", IndexOutOfBoundsException.class,
                () -> x.diskState(0));
        x.addDisk(2);
        x.addDisk(2);
        due.is("diskState(0)", x.diskState(0), 's');
        x.warn(0);
        due.is("diskState(0) warned of", x.diskState(0), 'w');
        due.is("diskState(1)", x.diskState(1), 's');
        x.fail(0);
        due.is("diskState(0) failed", x.diskState(0), 'f');
        x.replace(0);
        due.is("diskState(0) replaced", x.diskState(0), 's');
        int[] wrong = {-1, 2, 8, Integer.MAX_VALUE, Integer.MIN_VALUE};
        for (int disk : wrong) {
            due.isThrown("diskState(" + disk + ")", IndexOutOfBoundsException.class,
                    () -> x.diskState(disk));
        }
    }

    private static void usedOn() {
        due.promise(5);
        VolumeShepherd x = new VolumeShepherd();
        x.addDisk(4);
        x.addDisk(2);
        x.addTenant(1, 0);
        for (int block = 0; block < 4; block++) {
            x.write(0, block, block);
        }
        x.pass(1);
        due.is("usedOn(0)", x.usedOn(0), 3);
        due.is("usedOn(1)", x.usedOn(1), 1);
        x.rot(0, 0);
        due.is("usedOn(0) with a rotten one", x.usedOn(0), 3);
        x.fail(0);
        due.is("usedOn(0) failed", x.usedOn(0), 0);
        x.replace(0);
        due.is("usedOn(0) replaced", x.usedOn(0), 0);
        int[] wrong = {-1, 2, Integer.MAX_VALUE, Integer.MIN_VALUE};
        for (int disk : wrong) {
            due.isThrown("usedOn(" + disk + ")", IndexOutOfBoundsException.class,
                    () -> x.usedOn(disk));
        }
    }

    private static void addTenant() {
        due.promise(6);
        VolumeShepherd x = new VolumeShepherd();
        int[][] wrong = {{0, 0}, {4, 0}, {-1, 0}, {1, -1}, {1, 21}, {3, Integer.MAX_VALUE},
            {Integer.MIN_VALUE, 5}, {0, 21}};
        for (int[] pair : wrong) {
            due.isThrown("addTenant(" + pair[0] + ", " + pair[1] + ")",
                    IllegalArgumentException.class, () -> x.addTenant(pair[0], pair[1]));
        }
        due.is("tenantCount() after the refusals", x.tenantCount(), 0);
        due.is("addTenant(1, 0)", x.addTenant(1, 0), 0);
        due.is("addTenant(3, 20)", x.addTenant(3, 20), 1);
        due.is("addTenant(2, 1)", x.addTenant(2, 1), 2);
        due.is("addTenant(1, 1)", x.addTenant(1, 1), 3);
        due.isThrown("fifth addTenant(1, 1)", IllegalStateException.class,
                () -> x.addTenant(1, 1));
        due.isThrown("fifth addTenant(0, 1)", IllegalArgumentException.class,
                () -> x.addTenant(0, 1));
        due.isThrown("fifth addTenant(1, 21)", IllegalArgumentException.class,
                () -> x.addTenant(1, 21));
        for (int disk = 0; disk < 4; disk++) {
            x.addDisk(8);
        }
        for (int tenant = 0; tenant < 4; tenant++) {
            x.write(tenant, 9, tenant);
        }
        x.pass(1);
        int[] copies = {1, 3, 2, 1};
        for (int tenant = 0; tenant < 4; tenant++) {
            due.is("copiesOf(" + tenant + ", 9)", x.copiesOf(tenant, 9), copies[tenant]);
        }
    }

    private static void tenantCount() {
        due.promise(7);
        VolumeShepherd x = new VolumeShepherd();
        for (int count = 0; count < 4; count++) {
            due.is("tenantCount()", x.tenantCount(), count);
            x.addTenant(1, 1);
        }
        due.is("tenantCount()", x.tenantCount(), 4);
    }

    private static void setHurry() {
        due.promise(8);
        VolumeShepherd x = new VolumeShepherd();
        due.is("setHurry(0)", x.setHurry(0), 10);
        due.is("setHurry(20)", x.setHurry(20), 0);
        int[] wrong = {-1, 21, Integer.MAX_VALUE, Integer.MIN_VALUE};
        for (int units : wrong) {
            due.isThrown("setHurry(" + units + ")", IllegalArgumentException.class,
                    () -> x.setHurry(units));
        }
        due.is("setHurry(7)", x.setHurry(7), 20);
        int[][] hurryAndCopies = {{0, 0}, {1, 0}, {2, 1}, {3, 1}, {10, 5}, {19, 9}, {20, 10}};
        for (int[] pair : hurryAndCopies) {
            VolumeShepherd y = twelveToRebuild();
            y.setHurry(pair[0]);
            y.pass(1);
            due.is("rebuilt() with the hurry " + pair[0], y.rebuilt(), pair[1]);
        }
    }

    /** Twelve blocks lack a copy each. */
    private static VolumeShepherd twelveToRebuild() {
        VolumeShepherd x = new VolumeShepherd();
        x.addDisk(20);
        x.addDisk(20);
        x.addTenant(2, 0);
        for (int block = 0; block < 12; block++) {
            x.write(0, block, block);
        }
        x.pass(2);
        x.fail(1);
        x.replace(1);
        return x;
    }
}
