import java.util.NoSuchElementException;

/** Each call on an array without disks and tenants, and on one that is as full as it can be. */
public final class EmptyAndFullTest {
    private static final Due due = new Due();

    private static final Class<IllegalStateException> STATE = IllegalStateException.class;
    private static final Class<IndexOutOfBoundsException> INDEX = IndexOutOfBoundsException.class;
    private static final Class<NoSuchElementException> ELEMENT = NoSuchElementException.class;
    private static final Class<ArithmeticException> ARITHMETIC = ArithmeticException.class;

    private static final Scene FULL = Scene.full();

    public static void main(String[] args) {
        emptyArray();
        emptyLine();
        emptyArrayTakes();
        tenantsWithoutDisks();
        disksWithoutTenants();
        fullArray();
        fullArrayOfBlocks();
        fullArrayOfRequests();
        fullArrayBears();
        fullArrayPasses();
        fullDiskFails();
        fullDiskIsWarnedOf();
        fullDiskRots();
        fullArrayIsWritten();
        fullArrayIsEmptied();
        lastCall();
        due.end();
    }

    private static void emptyArray() {
        due.promise(1);
        VolumeShepherd x = new VolumeShepherd();
        due.is("diskCount()", x.diskCount(), 0);
        due.is("tenantCount()", x.tenantCount(), 0);
        due.is("clock()", x.clock(), 0);
        due.is("lostBlocks()", x.lostBlocks(), 0);
        due.is("degradedBlocks()", x.degradedBlocks(), 0);
        due.is("rebuilt()", x.rebuilt(), 0);
        due.is("openRebuilds()", x.openRebuilds(), 0);
        due.is("isConsistent()", x.isConsistent(), true);
        for (int losses = 0; losses <= 3; losses++) {
            due.is("doesBear(" + losses + ")", x.doesBear(losses), true);
            due.is("doesBearByTrying(" + losses + ")", x.doesBearByTrying(losses), true);
        }
        due.isThrown("meanCopies()", ARITHMETIC, () -> x.meanCopies());
        due.isThrown("usedShare()", ARITHMETIC, () -> x.usedShare());
        due.isThrown("diskState(0)", INDEX, () -> x.diskState(0));
        due.isThrown("usedOn(0)", INDEX, () -> x.usedOn(0));
        due.isThrown("rottenOn(0)", INDEX, () -> x.rottenOn(0));
        due.isThrown("fail(0)", INDEX, () -> x.fail(0));
        due.isThrown("replace(0)", INDEX, () -> x.replace(0));
        due.isThrown("warn(0)", INDEX, () -> x.warn(0));
        due.isThrown("rot(0, 0)", INDEX, () -> x.rot(0, 0));
        due.isThrown("scrub(0)", INDEX, () -> x.scrub(0));
        due.isThrown("writeDisk(0)", INDEX, () -> x.writeDisk(0));
        due.isThrown("read(0, 0)", INDEX, () -> x.read(0, 0));
        due.isThrown("write(0, 0, 0)", INDEX, () -> x.write(0, 0, 0));
        due.isThrown("stateOf(0)", INDEX, () -> x.stateOf(0));
        due.isThrown("answerTo(0)", INDEX, () -> x.answerTo(0));
        due.isThrown("waitingOf(0)", INDEX, () -> x.waitingOf(0));
        due.isThrown("servedOf(0)", INDEX, () -> x.servedOf(0));
        due.isThrown("creditsOf(0)", INDEX, () -> x.creditsOf(0));
        due.isThrown("breachesOf(0)", INDEX, () -> x.breachesOf(0));
        due.isThrown("blocksOf(0)", INDEX, () -> x.blocksOf(0));
        due.isThrown("copiesOf(0, 0)", INDEX, () -> x.copiesOf(0, 0));
        due.isThrown("copiesByDisks(0, 0)", INDEX, () -> x.copiesByDisks(0, 0));
        due.isThrown("diskOfCopy(0, 0, 0)", INDEX, () -> x.diskOfCopy(0, 0, 0));
        due.isThrown("valueOf(0, 0)", INDEX, () -> x.valueOf(0, 0));
        due.isThrown("isLost(0, 0)", INDEX, () -> x.isLost(0, 0));
    }

    private static void emptyLine() {
        due.promise(41);
        VolumeShepherd x = new VolumeShepherd();
        due.isThrown("lineAt(0)", INDEX, () -> x.lineAt(0));
        x.addDisk(1);
        due.isThrown("lineAt(0), nothing written", INDEX, () -> x.lineAt(0));
        due.promise(40);
        due.is("writeDisk(0), no slot used", x.writeDisk(0), 1);
        due.is("the line", Steps.lineOf(x, 0), "s");
    }

    private static void emptyArrayTakes() {
        due.promise(8);
        due.is("setHurry(0)", new VolumeShepherd().setHurry(0), 10);
        due.promise(2);
        due.is("addDisk(1)", new VolumeShepherd().addDisk(1), 0);
        due.promise(6);
        due.is("addTenant(1, 0)", new VolumeShepherd().addTenant(1, 0), 0);
        due.promise(17);
        due.is("pass(1)", new VolumeShepherd().pass(1), 1);
        due.is("pass(50)", new VolumeShepherd().pass(50), 50);
    }

    private static void tenantsWithoutDisks() {
        due.promise(10);
        VolumeShepherd x = new VolumeShepherd();
        x.addTenant(1, 1);
        due.is("write(0, 0, 0)", x.write(0, 0, 0), 0);
        due.is("read(0, 0)", x.read(0, 0), 1);
        due.is("pass(1)", x.pass(1), 1);
        due.promise(11);
        due.is("stateOf(0), no disk", x.stateOf(0), 'x');
        due.is("stateOf(1), no disk", x.stateOf(1), 'x');
        due.promise(14);
        due.is("servedOf(0)", x.servedOf(0), 2);
        due.promise(19);
        due.is("blocksOf(0)", x.blocksOf(0), 0);
        due.promise(37);
        due.isThrown("meanCopies()", ARITHMETIC, () -> x.meanCopies());
        due.promise(38);
        due.isThrown("usedShare()", ARITHMETIC, () -> x.usedShare());
    }

    private static void disksWithoutTenants() {
        VolumeShepherd x = Steps.array(1, 32);
        due.promise(17);
        due.is("pass(1)", x.pass(1), 1);
        due.promise(38);
        due.is("usedShare()", x.usedShare(), 0.0f);
        due.promise(33);
        due.is("scrub(0)", x.scrub(0), 0);
        due.promise(31);
        due.is("warn(0)", x.warn(0), 0);
        due.promise(29);
        due.is("fail(0)", x.fail(0), 0);
        due.is("fail(1)", x.fail(1), 0);
        due.promise(30);
        due.is("replace(1)", x.replace(1), 1);
        due.is("replace(0)", x.replace(0), 2);
        due.promise(32);
        due.isThrown("rot(1, 31)", ELEMENT, () -> x.rot(1, 31));
        due.promise(36);
        due.is("openRebuilds()", x.openRebuilds(), 0);
    }

    private static void fullArray() {
        VolumeShepherd x = FULL.make();
        due.promise(3);
        due.is("diskCount()", x.diskCount(), 8);
        due.promise(2);
        due.isThrown("addDisk(1)", STATE, () -> x.addDisk(1));
        due.promise(7);
        due.is("tenantCount()", x.tenantCount(), 4);
        due.promise(6);
        due.isThrown("addTenant(1, 0)", STATE, () -> x.addTenant(1, 0));
        for (int disk = 0; disk < 8; disk++) {
            due.promise(4);
            due.is("diskState(" + disk + ")", x.diskState(disk), 's');
            due.promise(5);
            due.is("usedOn(" + disk + ")", x.usedOn(disk), 32);
            due.promise(34);
            due.is("rottenOn(" + disk + ")", x.rottenOn(disk), 0);
        }
        due.promise(35);
        due.is("rebuilt()", x.rebuilt(), 0);
        due.promise(36);
        due.is("openRebuilds()", x.openRebuilds(), 0);
        due.promise(37);
        due.is("meanCopies()", x.meanCopies(), 256.0 / 88.0);
        due.promise(38);
        due.is("usedShare()", x.usedShare(), 1.0f);
        due.promise(39);
        due.is("isConsistent()", x.isConsistent(), true);
        due.promise(8);
        due.is("setHurry(20)", x.setHurry(20), 10);
    }

    private static void fullArrayOfBlocks() {
        VolumeShepherd x = FULL.make();
        due.promise(19);
        int[] blocks = {40, 40, 8, 0};
        int[] copies = {3, 3, 2, 0};
        for (int tenant = 0; tenant < 4; tenant++) {
            int block = tenant == 2 ? 99 : 39;
            String of = "Of(" + tenant + ", " + block + ")";
            due.promise(19);
            due.is("blocksOf(" + tenant + ")", x.blocksOf(tenant), blocks[tenant]);
            due.promise(20);
            due.is("copies" + of, x.copiesOf(tenant, block), copies[tenant]);
            due.promise(21);
            due.is("copiesByDisks" + of, x.copiesByDisks(tenant, block), copies[tenant]);
            due.promise(24);
            due.is("isLost" + of, x.isLost(tenant, block), false);
        }
        due.promise(22);
        due.is("diskOfCopy(0, 0, 2)", x.diskOfCopy(0, 0, 2), 2);
        due.is("diskOfCopy(1, 0, 0)", x.diskOfCopy(1, 0, 0), 3);
        due.isThrown("diskOfCopy(2, 99, 2)", ELEMENT, () -> x.diskOfCopy(2, 99, 2));
        due.isThrown("diskOfCopy(3, 0, 0)", ELEMENT, () -> x.diskOfCopy(3, 0, 0));
        due.promise(23);
        due.is("valueOf(0, 0)", x.valueOf(0, 0), 0);
        due.is("valueOf(2, 99)", x.valueOf(2, 99), 9999);
        due.isThrown("valueOf(3, 0)", ELEMENT, () -> x.valueOf(3, 0));
        due.promise(25);
        due.is("lostBlocks()", x.lostBlocks(), 0);
        due.promise(26);
        due.is("degradedBlocks()", x.degradedBlocks(), 0);
    }

    private static void fullArrayOfRequests() {
        VolumeShepherd x = FULL.make();
        due.promise(9);
        due.isThrown("read(0, 0)", STATE, () -> x.read(0, 0));
        due.promise(10);
        due.isThrown("write(0, 0, 0)", STATE, () -> x.write(0, 0, 0));
        due.promise(11);
        due.is("stateOf(0)", x.stateOf(0), 'd');
        due.is("stateOf(87)", x.stateOf(87), 'd');
        due.is("stateOf(88)", x.stateOf(88), 'w');
        due.is("stateOf(127)", x.stateOf(127), 'w');
        due.isThrown("stateOf(128)", INDEX, () -> x.stateOf(128));
        due.promise(12);
        due.isThrown("answerTo(0)", ELEMENT, () -> x.answerTo(0));
        due.isThrown("answerTo(127)", ELEMENT, () -> x.answerTo(127));
        int[] served = {40, 40, 8, 0};
        // 20 waiting writes of 3 units: 3 are served in each tick, so 17, 14, 11, 8, 5, 2 lack.
        int[] credits = {114, 0, 0, 0};
        int[] breaches = {12, 0, 0, 0};
        for (int tenant = 0; tenant < 4; tenant++) {
            due.promise(13);
            due.is("waitingOf(" + tenant + ")", x.waitingOf(tenant), 10);
            due.promise(14);
            due.is("servedOf(" + tenant + ")", x.servedOf(tenant), served[tenant]);
            due.promise(15);
            due.is("creditsOf(" + tenant + ")", x.creditsOf(tenant), credits[tenant]);
            due.promise(16);
            due.is("breachesOf(" + tenant + ")", x.breachesOf(tenant), breaches[tenant]);
        }
    }

    private static void fullArrayBears() {
        VolumeShepherd x = FULL.make();
        boolean[] bears = {true, true, false, false};
        for (int losses = 0; losses <= 3; losses++) {
            due.promise(27);
            due.is("doesBear(" + losses + ")", x.doesBear(losses), bears[losses]);
            due.promise(28);
            due.is("doesBearByTrying(" + losses + ")", x.doesBearByTrying(losses), bears[losses]);
        }
    }

    /** Five of each tenant's ten reads are served; the promised speeds are 20, 0, 7 and 1. */
    private static void fullArrayPasses() {
        VolumeShepherd x = FULL.make();
        due.promise(18);
        due.is("clock()", x.clock(), 17);
        due.promise(17);
        due.is("pass(1)", x.pass(1), 18);
        int[] credits = {119, 0, 2, 0};
        int[] breaches = {13, 0, 1, 0};
        for (int tenant = 0; tenant < 4; tenant++) {
            due.promise(13);
            due.is("waitingOf(" + tenant + ")", x.waitingOf(tenant), 5);
            due.promise(15);
            due.is("creditsOf(" + tenant + ")", x.creditsOf(tenant), credits[tenant]);
            due.promise(16);
            due.is("breachesOf(" + tenant + ")", x.breachesOf(tenant), breaches[tenant]);
        }
        due.promise(11);
        due.is("stateOf(88)", x.stateOf(88), 'd');
        due.is("stateOf(90), unwritten", x.stateOf(90), 'x');
        due.is("stateOf(107), the last one served", x.stateOf(107), 'x');
        due.is("stateOf(108)", x.stateOf(108), 'w');
        due.promise(12);
        due.is("answerTo(104)", x.answerTo(104), 32);
        due.promise(9);
        due.is("read(0, 0), 20 are waiting", x.read(0, 0), 128);
        due.promise(17);
        due.is("pass(50)", x.pass(50), 68);
        due.promise(14);
        due.is("servedOf(0)", x.servedOf(0), 51);
    }

    private static void fullDiskFails() {
        VolumeShepherd x = FULL.make();
        due.promise(29);
        due.is("fail(0)", x.fail(0), 32);
        due.promise(5);
        due.is("usedOn(0)", x.usedOn(0), 0);
        due.promise(26);
        due.is("degradedBlocks()", x.degradedBlocks(), 32);
        due.promise(38);
        due.is("usedShare(), of the others", x.usedShare(), 1.0f);
        due.promise(36);
        due.is("openRebuilds(), no slot is free", x.openRebuilds(), 0);
        due.promise(2);
        due.isThrown("addDisk(32) beside a failed one", STATE, () -> x.addDisk(32));
        due.promise(30);
        due.is("replace(0)", x.replace(0), 8);
        due.promise(38);
        due.is("usedShare()", x.usedShare(), 224.0f / 256.0f);
        due.promise(36);
        due.is("openRebuilds()", x.openRebuilds(), 32);
        due.promise(35);
        x.setHurry(20);
        x.pass(3);
        due.is("rebuilt(), ten in a tick", x.rebuilt(), 30);
        x.pass(1);
        due.is("rebuilt()", x.rebuilt(), 32);
        due.promise(5);
        due.is("usedOn(0)", x.usedOn(0), 32);
    }

    private static void fullDiskIsWarnedOf() {
        VolumeShepherd x = FULL.make();
        due.promise(31);
        due.is("warn(7)", x.warn(7), 32);
        due.promise(39);
        due.is("isConsistent(), copies on a disk warned of", x.isConsistent(), true);
        due.promise(36);
        due.is("openRebuilds(), no slot is free", x.openRebuilds(), 0);
        x.pass(2);
        due.promise(35);
        due.is("rebuilt()", x.rebuilt(), 0);
        due.promise(40);
        due.is("writeDisk(7)", x.writeDisk(7), 154);
        due.promise(41);
        due.is("lineAt(0)", x.lineAt(0), 'w');
        due.is("lineAt(153)", x.lineAt(153), '2');
        due.isThrown("lineAt(154)", INDEX, () -> x.lineAt(154));
    }

    private static void fullDiskRots() {
        VolumeShepherd x = FULL.make();
        for (int slot = 0; slot < 32; slot++) {
            due.promise(32);
            due.is("rot(7, " + slot + ")", x.rot(7, slot), false);
            due.promise(34);
            due.is("rottenOn(7)", x.rottenOn(7), slot + 1);
        }
        due.promise(32);
        due.is("rot(7, 31) again", x.rot(7, 31), true);
        due.promise(40);
        due.is("writeDisk(7)", x.writeDisk(7), 154 + 32);
        due.promise(33);
        due.is("scrub(7)", x.scrub(7), 32);
        due.is("scrub(7) again", x.scrub(7), 0);
        due.promise(34);
        due.is("rottenOn(7)", x.rottenOn(7), 0);
        due.is("rottenOn(6)", x.rottenOn(6), 0);
    }

    /** What is written already needs no place. */
    private static void fullArrayIsWritten() {
        VolumeShepherd x = FULL.make();
        x.pass(2);
        due.promise(10);
        due.is("write(0, 0, 9999)", x.write(0, 0, 9999), 128);
        due.is("write(3, 0, 5)", x.write(3, 0, 5), 129);
        x.pass(1);
        due.promise(11);
        due.is("stateOf(128), written already", x.stateOf(128), 'd');
        due.is("stateOf(129), no slot is free", x.stateOf(129), 'x');
        due.promise(23);
        due.is("valueOf(0, 0)", x.valueOf(0, 0), 9999);
    }

    private static void fullArrayIsEmptied() {
        VolumeShepherd x = FULL.make();
        for (int disk = 0; disk < 8; disk++) {
            due.promise(29);
            due.is("fail(" + disk + ")", x.fail(disk), 32);
        }
        due.promise(25);
        due.is("lostBlocks()", x.lostBlocks(), 88);
        due.promise(26);
        due.is("degradedBlocks()", x.degradedBlocks(), 88);
        due.promise(37);
        due.is("meanCopies()", x.meanCopies(), 0.0);
        due.promise(38);
        due.isThrown("usedShare()", ARITHMETIC, () -> x.usedShare());
        due.promise(39);
        due.is("isConsistent()", x.isConsistent(), true);
        for (int losses = 0; losses <= 3; losses++) {
            due.promise(27);
            due.is("doesBear(" + losses + ")", x.doesBear(losses), true);
            due.promise(28);
            due.is("doesBearByTrying(" + losses + ")", x.doesBearByTrying(losses), true);
        }
        for (int disk = 7; disk >= 0; disk--) {
            due.promise(30);
            due.is("replace(" + disk + ")", x.replace(disk), 8 - disk);
        }
        due.promise(36);
        due.is("openRebuilds(), all are lost", x.openRebuilds(), 0);
        due.promise(19);
        due.is("blocksOf(0), lost ones included", x.blocksOf(0), 40);
    }

    /** An object is used for at most 512 calls: the last one of them is answered too. */
    private static void lastCall() {
        due.promise(17);
        VolumeShepherd x = Steps.array(2);
        x.addTenant(1, 1);
        for (int request = 0; request < 300; request++) {
            x.write(0, request % 2, request);
            if (request % 40 == 39) {
                x.pass(2);
            }
        }
        for (int call = 309; call < 509; call++) {
            x.pass(48);
        }
        due.is("the 510th call, clock()", x.clock(), 200 * 48 + 14);
        due.is("the 511th call, stateOf(299)", x.stateOf(299), 'd');
        due.is("the 512th call, valueOf(0, 1)", x.valueOf(0, 1), 299);
    }
}
