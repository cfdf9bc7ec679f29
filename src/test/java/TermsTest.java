import java.util.NoSuchElementException;

/** What the document's section 'Terms' says, at its boundaries. */
public final class TermsTest {
    private static final Due due = new Due();

    public static void main(String[] args) {
        failedDiskLosesAllCopies();
        copiesAreOnDifferentDisks();
        lastGoodCopy();
        fewerCopiesThanWanted();
        placeIsOnSoundDisk();
        placeNeedsFreeSlot();
        placeIsBesideTheBlocksCopies();
        placeHasMostFreeSlots();
        placeIsOnLowestNumber();
        placeIsInLowestFreeSlot();
        readNeedsGoodCopy();
        readAnswersTheValueThen();
        writeOverOneGoodCopy();
        writeNeedsPlacesForAllCopies();
        writeOverLostUsesItsOwnSlots();
        writeOverLostWithoutPlaces();
        unitsSuffice();
        refusedRequestsTakeAsMuch();
        rebuildingIsWithinTheHurry();
        rebuildingLeavesTheRest();
        rebuildingComesFirst();
        eachTenantInARound();
        roundsEnd();
        creditsForWhatIsLacking();
        creditsForFewerRequests();
        breachOfATick();
        orderOfFirstWrites();
        madeUntilNotDegraded();
        madeWherePlacesAre();
        lostIsNotRebuilt();
        movedFromTheOldestOn();
        movedWithinTheHurry();
        movedIfThereIsAPlace();
        movedAfterAllAreMade();
        movedOneIsGoodAndNewest();
        openIsWhatOneRebuildingMakes();
        due.end();
    }

    private static void areLines(VolumeShepherd x, String... lines) {
        for (int disk = 0; disk < lines.length; disk++) {
            due.is("disk " + disk, Steps.lineOf(x, disk), lines[disk]);
        }
    }

    private static void areDisksOf(VolumeShepherd x, int tenant, int block, int... disks) {
        due.is("copiesOf(" + tenant + ", " + block + ")", x.copiesOf(tenant, block),
                disks.length);
        for (int index = 0; index < disks.length; index++) {
            due.is("diskOfCopy(" + tenant + ", " + block + ", " + index + ")",
                    x.diskOfCopy(tenant, block, index), disks[index]);
        }
    }

    private static void areStates(VolumeShepherd x, int first, String states) {
        for (int i = 0; i < states.length(); i++) {
            int request = first + i;
            due.is("stateOf(" + request + ")", x.stateOf(request), states.charAt(i));
        }
    }

    private static void fail(VolumeShepherd x, int... disks) {
        for (int disk : disks) {
            x.fail(disk);
        }
    }

    // ---- disks and blocks

    private static void failedDiskLosesAllCopies() {
        due.term("When a disk fails, all its copies are gone.");
        VolumeShepherd x = Steps.array(3, 3);
        x.addTenant(2, 0);
        x.setHurry(0);
        for (int block = 0; block < 3; block++) {
            Steps.put(x, 0, block, block);
        }
        x.rot(0, 2);
        due.is("fail(0)", x.fail(0), 3);
        areLines(x, "f", "s 0.0 0.1 0.2");
        for (int block = 0; block < 3; block++) {
            areDisksOf(x, 0, block, 1);
        }
        x.replace(0);
        areLines(x, "s", "s 0.0 0.1 0.2");
        due.is("rottenOn(0)", x.rottenOn(0), 0);
        x.setHurry(20);
        x.pass(1);
        areLines(x, "s 0.0 0.1 0.2", "s 0.0 0.1 0.2");
    }

    private static void copiesAreOnDifferentDisks() {
        due.term("each copy is on another disk");
        VolumeShepherd x = Steps.array(32, 32);
        x.addTenant(3, 0);
        x.addTenant(2, 0);
        x.write(0, 0, 1);
        x.write(1, 0, 1);
        x.pass(1);
        areStates(x, 0, "xd");
        x.addDisk(1);
        Steps.put(x, 0, 0, 1);
        areDisksOf(x, 0, 0, 0, 1, 2);
    }

    private static void lastGoodCopy() {
        due.term("A block is lost if it has been written and has no good copy.");
        VolumeShepherd x = Steps.array(1, 1, 1);
        x.addTenant(3, 0);
        due.is("isLost(0, 0), unwritten", x.isLost(0, 0), false);
        Steps.put(x, 0, 0, 1);
        x.rot(2, 0);
        x.rot(0, 0);
        due.is("isLost(0, 0), one good", x.isLost(0, 0), false);
        due.is("lostBlocks(), one good", x.lostBlocks(), 0);
        x.rot(1, 0);
        due.is("isLost(0, 0), three rotten", x.isLost(0, 0), true);
        due.is("lostBlocks(), three rotten", x.lostBlocks(), 1);
        fail(x, 0, 1, 2);
        due.is("isLost(0, 0), no copy", x.isLost(0, 0), true);
        VolumeShepherd y = Steps.array(1, 1);
        y.addTenant(2, 0);
        Steps.put(y, 0, 0, 1);
        y.fail(0);
        due.is("isLost(0, 0), the newest one left", y.isLost(0, 0), false);
        y.fail(1);
        due.is("isLost(0, 0), none left", y.isLost(0, 0), true);
    }

    private static void fewerCopiesThanWanted() {
        due.term("It is degraded if it has been written and has fewer copies than wanted.");
        VolumeShepherd x = Steps.array(4, 4, 4);
        x.addTenant(3, 0);
        due.is("degradedBlocks(), unwritten", x.degradedBlocks(), 0);
        Steps.put(x, 0, 0, 1);
        x.rot(0, 0);
        x.rot(1, 0);
        due.is("degradedBlocks(), rotten ones count", x.degradedBlocks(), 0);
        x.fail(0);
        due.is("degradedBlocks(), two of three", x.degradedBlocks(), 1);
        x.fail(1);
        due.is("degradedBlocks(), one of three", x.degradedBlocks(), 1);
        x.fail(2);
        due.is("degradedBlocks(), none of three", x.degradedBlocks(), 1);
        VolumeShepherd y = Steps.array(4);
        y.addTenant(1, 0);
        Steps.put(y, 0, 0, 1);
        due.is("degradedBlocks(), one of one", y.degradedBlocks(), 0);
        Steps.put(y, 0, 99, 1);
        y.fail(0);
        due.is("degradedBlocks(), none of one", y.degradedBlocks(), 2);
    }

    // ---- places

    private static void placeIsOnSoundDisk() {
        due.term("A place for a new copy of a block is on a sound disk");
        VolumeShepherd x = Steps.array(32, 32, 1);
        x.addTenant(1, 0);
        x.warn(0);
        x.fail(1);
        Steps.put(x, 0, 0, 1);
        areDisksOf(x, 0, 0, 2);
        Steps.put(x, 0, 1, 1);
        areStates(x, 1, "x");
        x.replace(1);
        Steps.put(x, 0, 1, 1);
        areDisksOf(x, 0, 1, 1);
    }

    private static void placeNeedsFreeSlot() {
        due.term("that has a free slot");
        VolumeShepherd x = Steps.array(1, 2);
        x.addTenant(1, 0);
        for (int block = 0; block < 4; block++) {
            Steps.put(x, 0, block, 1);
        }
        areStates(x, 0, "dddx");
        areLines(x, "s 0.1", "s 0.0 0.2");
        fail(x, 0);
        x.replace(0);
        Steps.put(x, 0, 3, 1);
        areLines(x, "s 0.3", "s 0.0 0.2");
    }

    private static void placeIsBesideTheBlocksCopies() {
        due.term("and no copy of the block");
        VolumeShepherd x = Steps.array(9, 2, 1);
        x.addTenant(2, 0);
        Steps.put(x, 0, 0, 1);
        areDisksOf(x, 0, 0, 0, 1);
        x.fail(1);
        x.pass(1);
        areDisksOf(x, 0, 0, 0, 2);
        x.fail(2);
        x.pass(1);
        areDisksOf(x, 0, 0, 0);
        rottenCopyTakesItsDisk();
    }

    /** The disk with the rotten copy has the most free slots. */
    private static void rottenCopyTakesItsDisk() {
        VolumeShepherd x = Steps.array(9, 3, 3);
        x.addTenant(3, 0);
        Steps.put(x, 0, 0, 1);
        areDisksOf(x, 0, 0, 0, 1, 2);
        x.rot(0, 0);
        x.fail(1);
        due.is("openRebuilds(), only beside the rotten one", x.openRebuilds(), 0);
        x.pass(1);
        areDisksOf(x, 0, 0, 0, 2);
        x.replace(1);
        due.is("openRebuilds(), a place again", x.openRebuilds(), 1);
        x.pass(1);
        areDisksOf(x, 0, 0, 0, 2, 1);
        areLines(x, "s 0.0!", "s 0.0", "s 0.0");
        x.warn(2);
        due.is("openRebuilds(), no place to move to", x.openRebuilds(), 0);
        x.pass(1);
        areDisksOf(x, 0, 0, 0, 2, 1);
        x.addDisk(1);
        x.pass(1);
        areDisksOf(x, 0, 0, 0, 1, 3);
        areLines(x, "s 0.0!", "s 0.0", "w", "s 0.0");
    }

    private static void placeHasMostFreeSlots() {
        due.term("of several such disks, on the one with the most free slots");
        VolumeShepherd x = Steps.array(5, 6, 5);
        x.addTenant(1, 0);
        Steps.put(x, 0, 0, 1);
        areDisksOf(x, 0, 0, 1);
        VolumeShepherd y = Steps.array(31, 2, 32);
        y.addTenant(1, 0);
        y.addTenant(3, 0);
        Steps.put(y, 1, 0, 1);
        areDisksOf(y, 1, 0, 2, 0, 1);
        for (int block = 0; block < 29; block++) {
            y.write(0, block, 1);
        }
        y.pass(2);
        due.is("usedOn(0), 16 free", y.usedOn(0), 15);
        due.is("usedOn(2), 16 free", y.usedOn(2), 16);
        due.is("usedOn(1), 1 free", y.usedOn(1), 1);
    }

    private static void placeIsOnLowestNumber() {
        due.term("of these on the one with the lowest number");
        VolumeShepherd x = Steps.array(1, 2, 3, 3, 2);
        x.addTenant(1, 0);
        int[] disks = {2, 3, 1, 2, 3, 4, 0, 1, 2, 3, 4};
        for (int block = 0; block < disks.length; block++) {
            Steps.put(x, 0, block, 1);
            areDisksOf(x, 0, block, disks[block]);
        }
        Steps.put(x, 0, 99, 1);
        areStates(x, disks.length, "x");
    }

    /** A lost block that is written leaves its slot for the new disk, which then fails. */
    private static void placeIsInLowestFreeSlot() {
        due.term("and there in the free slot with the lowest number");
        String[] lines = {"s 0.10 0.1 0.2 0.11", "s 0.0 0.10 0.2 0.11", "s 0.0 0.1 0.10 0.11"};
        for (int hole = 0; hole < 3; hole++) {
            VolumeShepherd x = Steps.array(4);
            x.addTenant(1, 0);
            for (int block = 0; block < 3; block++) {
                Steps.put(x, 0, block, 1);
            }
            x.addDisk(32);
            x.rot(0, hole);
            Steps.put(x, 0, hole, 2);
            areDisksOf(x, 0, hole, 1);
            x.fail(1);
            for (int block = 10; block < 13; block++) {
                Steps.put(x, 0, block, 1);
            }
            areStates(x, 4, "ddx");
            areLines(x, lines[hole], "f");
        }
    }

    // ---- requests

    private static void readNeedsGoodCopy() {
        due.term("it is done if the block has a good copy ... otherwise it is refused");
        VolumeShepherd x = Steps.array(2, 2);
        x.addTenant(2, 0);
        x.read(0, 0);
        x.write(0, 0, 5);
        x.read(0, 0);
        x.pass(1);
        areStates(x, 0, "xdd");
        x.rot(0, 0);
        x.read(0, 0);
        x.pass(1);
        areStates(x, 3, "d");
        x.rot(1, 0);
        x.read(0, 0);
        x.pass(1);
        areStates(x, 4, "x");
        fail(x, 0, 1);
        x.read(0, 0);
        x.pass(1);
        areStates(x, 5, "x");
    }

    private static void readAnswersTheValueThen() {
        due.term("and its answer is the value then");
        VolumeShepherd x = Steps.array(2);
        x.addTenant(1, 0);
        x.write(0, 0, 0);
        x.read(0, 0);
        x.write(0, 0, 9999);
        x.read(0, 0);
        x.write(0, 0, 1);
        due.isThrown("answerTo(1), waiting", NoSuchElementException.class, () -> x.answerTo(1));
        x.pass(1);
        due.is("answerTo(1)", x.answerTo(1), 0);
        due.is("answerTo(3)", x.answerTo(3), 9999);
        x.rot(0, 0);
        due.is("answerTo(3), lost since then", x.answerTo(3), 9999);
    }

    private static void writeOverOneGoodCopy() {
        due.term("neither unwritten nor lost, all its copies get the value and are good");
        VolumeShepherd x = Steps.array(1, 1, 1);
        x.addTenant(3, 0);
        Steps.put(x, 0, 0, 1);
        x.rot(0, 0);
        x.rot(1, 0);
        x.warn(0);
        x.warn(1);
        x.warn(2);
        Steps.put(x, 0, 0, 2);
        areStates(x, 1, "d");
        areLines(x, "w 0.0", "w 0.0", "w 0.0");
        areDisksOf(x, 0, 0, 0, 1, 2);
        fail(x, 1, 2);
        due.is("valueOf(0, 0) of the one that was rotten", x.valueOf(0, 0), 2);
        Steps.put(x, 0, 0, 3);
        due.is("valueOf(0, 0), one of three left", x.valueOf(0, 0), 3);
        areDisksOf(x, 0, 0, 0);
    }

    private static void writeNeedsPlacesForAllCopies() {
        due.term("if there are not so many places, the request is refused");
        for (int copies = 1; copies <= 3; copies++) {
            VolumeShepherd x = Steps.array(9, 9, 9);
            x.addTenant(copies, 0);
            x.warn(2);
            fail(x, 0);
            for (int disks = 1; disks < copies; disks++) {
                x.addDisk(1);
            }
            fail(x, 1);
            Steps.put(x, 0, 0, 1);
            areStates(x, 0, "x");
            due.is("copiesOf(0, 0), one place too few", x.copiesOf(0, 0), 0);
            due.is("copiesByDisks(0, 0)", x.copiesByDisks(0, 0), 0);
            due.is("blocksOf(0)", x.blocksOf(0), 0);
            due.is("isLost(0, 0)", x.isLost(0, 0), false);
            due.is("degradedBlocks()", x.degradedBlocks(), 0);
            due.is("usedShare()", x.usedShare(), 0.0f);
            x.addDisk(1);
            Steps.put(x, 0, 0, 1);
            areStates(x, 1, "d");
            due.is("copiesOf(0, 0), just enough places", x.copiesOf(0, 0), copies);
            Steps.put(x, 0, 1, 1);
            areStates(x, 2, "x");
        }
    }

    private static void writeOverLostUsesItsOwnSlots() {
        due.term("all its copies that are left are taken away");
        VolumeShepherd x = Steps.array(1, 1, 1);
        x.addTenant(3, 0);
        Steps.put(x, 0, 0, 1);
        for (int disk = 0; disk < 3; disk++) {
            x.rot(disk, 0);
        }
        Steps.put(x, 0, 0, 2);
        areStates(x, 1, "d");
        areLines(x, "s 0.0", "s 0.0", "s 0.0");
        due.is("valueOf(0, 0)", x.valueOf(0, 0), 2);
        VolumeShepherd y = Steps.array(3, 3, 5);
        y.addTenant(2, 0);
        Steps.put(y, 0, 0, 1);
        areDisksOf(y, 0, 0, 2, 0);
        y.rot(2, 0);
        y.rot(0, 0);
        y.warn(2);
        Steps.put(y, 0, 0, 2);
        areLines(y, "s 0.0", "s 0.0", "w");
        areDisksOf(y, 0, 0, 0, 1);
    }

    private static void writeOverLostWithoutPlaces() {
        due.term("and the block stays as it was");
        VolumeShepherd x = Steps.array(2, 2, 2);
        x.addTenant(3, 0);
        x.addTenant(1, 0);
        x.addTenant(3, 0);
        Steps.put(x, 0, 0, 1);
        Steps.put(x, 1, 0, 1);
        Steps.put(x, 2, 0, 1);
        x.rot(0, 0);
        x.rot(1, 0);
        x.fail(2);
        due.is("isLost(0, 0)", x.isLost(0, 0), true);
        x.setHurry(0);
        Steps.put(x, 0, 0, 2);
        areStates(x, 3, "x");
        areLines(x, "s 0.0! 1.0", "s 0.0!", "f");
        areDisksOf(x, 0, 0, 0, 1);
        due.is("isLost(0, 0), still", x.isLost(0, 0), true);
        due.is("blocksOf(0)", x.blocksOf(0), 1);
        x.replace(2);
        x.warn(0);
        Steps.put(x, 0, 0, 2);
        areStates(x, 4, "x");
        areDisksOf(x, 0, 0, 0, 1);
        x.addDisk(1);
        Steps.put(x, 0, 0, 2);
        areStates(x, 5, "d");
        areDisksOf(x, 0, 0, 1, 2, 3);
        areLines(x, "w 1.0", "s 0.0", "s 0.0", "s 0.0");
    }

    // ---- ticks

    /** The last request takes just the units that are left, or one more. */
    private static void unitsSuffice() {
        due.term("if the units that are left in the tick suffice for it");
        for (int copies = 1; copies <= 3; copies++) {
            for (int left = 0; left <= 4; left++) {
                VolumeShepherd x = Steps.array(32, 32, 32);
                x.addTenant(copies, 0);
                for (int request = 0; request < 20 - left; request++) {
                    x.read(0, 0);
                }
                int write = x.write(0, 0, 1);
                int read = x.read(0, 0);
                x.pass(1);
                due.is("a write of " + copies + " units, " + left + " left", x.stateOf(write),
                        left >= copies ? 'd' : 'w');
                due.is("a read behind it", x.stateOf(read), left >= copies + 1 ? 'd' : 'w');
                x.pass(1);
                areStates(x, write, "dd");
            }
        }
    }

    private static void refusedRequestsTakeAsMuch() {
        due.term("as many as copies are wanted, also if they are refused");
        int[] served = {20, 10, 6};
        for (int copies = 1; copies <= 3; copies++) {
            VolumeShepherd x = new VolumeShepherd();
            x.addTenant(copies, 0);
            for (int request = 0; request < 30; request++) {
                x.write(0, request, 1);
            }
            x.pass(1);
            due.is("servedOf(0), " + copies + " units each", x.servedOf(0), served[copies - 1]);
            VolumeShepherd y = new VolumeShepherd();
            y.addTenant(copies, 0);
            for (int request = 0; request < 30; request++) {
                y.read(0, request);
            }
            y.pass(1);
            due.is("servedOf(0), refused reads", y.servedOf(0), 20);
        }
    }

    /** Eleven blocks lack a copy each, and thirty reads wait. */
    private static VolumeShepherd elevenToRebuild() {
        VolumeShepherd x = Steps.array(32, 32);
        x.addTenant(2, 20);
        for (int block = 0; block < 11; block++) {
            x.write(0, block, block);
        }
        x.pass(2);
        x.fail(1);
        x.replace(1);
        for (int request = 0; request < 30; request++) {
            x.read(0, request % 11);
        }
        return x;
    }

    private static void rebuildingIsWithinTheHurry() {
        due.term("2 units for each copy that it makes or moves, as long as within the hurry");
        for (int hurry = 0; hurry <= 20; hurry++) {
            VolumeShepherd x = elevenToRebuild();
            int served = x.servedOf(0);
            int credits = x.creditsOf(0);
            x.setHurry(hurry);
            x.pass(1);
            String with = " with the hurry " + hurry;
            int copies = hurry / 2;
            due.is("rebuilt()" + with, x.rebuilt(), copies);
            due.is("requests served" + with, x.servedOf(0) - served, 20 - 2 * copies);
            due.is("credits" + with, x.creditsOf(0) - credits, 2 * copies);
        }
        VolumeShepherd x = elevenToRebuild();
        x.pass(1);
        due.is("rebuilt() with the first hurry", x.rebuilt(), 5);
    }

    private static void rebuildingLeavesTheRest() {
        due.term("A tick has 20 units.");
        VolumeShepherd x = elevenToRebuild();
        x.setHurry(20);
        int served = x.servedOf(0);
        x.pass(1);
        due.is("rebuilt()", x.rebuilt(), 10);
        due.is("no unit is left", x.servedOf(0) - served, 0);
        x.pass(1);
        due.is("rebuilt(), the eleventh", x.rebuilt(), 11);
        due.is("18 units are left", x.servedOf(0) - served, 18);
        x.pass(1);
        due.is("all are served", x.servedOf(0) - served, 30);
        due.is("waitingOf(0)", x.waitingOf(0), 0);
    }

    private static void rebuildingComesFirst() {
        due.term("First comes the rebuilding");
        VolumeShepherd x = Steps.array(1, 1, 1);
        x.addTenant(2, 0);
        x.addTenant(1, 0);
        Steps.put(x, 0, 0, 1);
        x.fail(0);
        x.write(1, 0, 1);
        x.pass(1);
        due.is("rebuilt(), ahead of the write", x.rebuilt(), 1);
        areStates(x, 1, "x");
        areLines(x, "f", "s 0.0", "s 0.0");
    }

    private static void eachTenantInARound() {
        due.term("in a round, each tenant in ascending order has the oldest one served");
        VolumeShepherd x = Steps.array(32);
        for (int tenant = 0; tenant < 4; tenant++) {
            x.addTenant(1, 0);
        }
        for (int tenant = 3; tenant >= 0; tenant--) {
            x.write(tenant, 5, 1);
            x.write(tenant, 4, 1);
        }
        x.pass(1);
        areLines(x, "s 0.5 1.5 2.5 3.5 0.4 1.4 2.4 3.4");
        VolumeShepherd y = Steps.array(32);
        for (int tenant = 0; tenant < 3; tenant++) {
            y.addTenant(1, 0);
        }
        for (int request = 0; request < 24; request++) {
            y.read(request % 3, 0);
        }
        y.pass(1);
        int[] served = {7, 7, 6};
        for (int tenant = 0; tenant < 3; tenant++) {
            due.is("servedOf(" + tenant + ") of 20 units", y.servedOf(tenant), served[tenant]);
        }
    }

    /** A round in which one tenant's request is too dear goes on with the others. */
    private static void roundsEnd() {
        due.term("The rounds end when none is served in a round.");
        VolumeShepherd x = Steps.array(32, 32, 32);
        x.addTenant(3, 0);
        x.addTenant(2, 0);
        x.addTenant(1, 0);
        for (int block = 0; block < 6; block++) {
            x.write(0, block, 1);
            x.write(1, block, 1);
        }
        for (int request = 0; request < 5; request++) {
            x.read(2, 0);
        }
        x.pass(1);
        due.is("servedOf(0), too dear with 2 units left", x.servedOf(0), 3);
        due.is("servedOf(1), with just 2 units left", x.servedOf(1), 4);
        due.is("servedOf(2), no unit left", x.servedOf(2), 3);
        VolumeShepherd y = Steps.array(32, 32, 32);
        y.addTenant(3, 0);
        y.addTenant(1, 0);
        for (int block = 0; block < 7; block++) {
            y.write(0, block, 1);
        }
        y.read(1, 0);
        y.read(1, 0);
        y.read(1, 0);
        y.read(1, 0);
        y.pass(1);
        due.is("servedOf(0), 1 unit is left over", y.servedOf(0), 5);
        due.is("servedOf(1)", y.servedOf(1), 4);
        y.pass(1);
        due.is("servedOf(0), nothing carried over", y.servedOf(0), 7);
    }

    private static void creditsForWhatIsLacking() {
        due.term("for each one of these that is lacking, the tenant gets a credit");
        int[] promises = {0, 9, 10, 11, 20};
        int[] credits = {0, 0, 0, 1, 10};
        for (int i = 0; i < promises.length; i++) {
            VolumeShepherd x = Steps.array(1);
            x.addTenant(1, promises[i]);
            x.addTenant(1, 0);
            for (int request = 0; request < 20; request++) {
                x.read(0, 0);
                x.read(1, 0);
            }
            x.pass(1);
            String of = " of 10 served, promised " + promises[i];
            due.is("servedOf(0)" + of, x.servedOf(0), 10);
            due.is("creditsOf(0)" + of, x.creditsOf(0), credits[i]);
            due.is("breachesOf(0)" + of, x.breachesOf(0), credits[i] > 0 ? 1 : 0);
            due.is("creditsOf(1)" + of, x.creditsOf(1), 0);
        }
    }

    private static void creditsForFewerRequests() {
        due.term("waiting when the tick began ... or all of them if there were fewer");
        for (int requests = 1; requests <= 7; requests++) {
            VolumeShepherd x = elevenToRebuild();
            x.pass(3);
            x.fail(0);
            x.replace(0);
            int credits = x.creditsOf(0);
            due.is("waitingOf(0)", x.waitingOf(0), 0);
            for (int request = 0; request < requests; request++) {
                x.read(0, 0);
            }
            x.setHurry(20);
            x.pass(1);
            due.is("credits, none of " + requests + " served", x.creditsOf(0) - credits, requests);
        }
        VolumeShepherd y = Steps.array(1);
        y.addTenant(1, 20);
        y.pass(50);
        due.is("creditsOf(0), none waiting", y.creditsOf(0), 0);
        due.is("breachesOf(0), none waiting", y.breachesOf(0), 0);
        y.read(0, 0);
        y.pass(1);
        due.is("creditsOf(0), the only one served", y.creditsOf(0), 0);
    }

    /** In two ticks 20 and 2 of the promised 20 are lacking, in the third none of the last 12. */
    private static void breachOfATick() {
        due.promise(16);
        int[] credits = {20, 22, 22};
        int[] breaches = {1, 2, 2};
        for (int ticks = 1; ticks <= 3; ticks++) {
            VolumeShepherd x = elevenToRebuild();
            int creditsBefore = x.creditsOf(0);
            int breachesBefore = x.breachesOf(0);
            x.setHurry(20);
            x.pass(ticks);
            due.is("credits in " + ticks, x.creditsOf(0) - creditsBefore, credits[ticks - 1]);
            due.is("breaches in " + ticks, x.breachesOf(0) - breachesBefore, breaches[ticks - 1]);
        }
        VolumeShepherd y = elevenToRebuild();
        due.is("breachesOf(0), one write of eleven was lacking", y.breachesOf(0), 1);
    }

    // ---- rebuilding

    private static void orderOfFirstWrites() {
        due.term("in the order in which they were first written");
        VolumeShepherd x = Steps.array(9, 9);
        x.addTenant(2, 0);
        x.addTenant(2, 0);
        Steps.put(x, 1, 99, 1);
        Steps.put(x, 0, 99, 1);
        Steps.put(x, 1, 0, 1);
        Steps.put(x, 0, 0, 1);
        Steps.put(x, 1, 99, 2);
        x.fail(0);
        x.replace(0);
        x.setHurry(2);
        String[] lines = {"s 1.99", "s 1.99 0.99", "s 1.99 0.99 1.0", "s 1.99 0.99 1.0 0.0"};
        for (String line : lines) {
            x.pass(1);
            areLines(x, line);
        }
        x.pass(1);
        due.is("rebuilt()", x.rebuilt(), 4);
        x.addDisk(9);
        x.warn(1);
        String[] moved = {"s 1.99", "s 1.99 0.99", "s 1.99 0.99 1.0", "s 1.99 0.99 1.0 0.0"};
        for (String line : moved) {
            x.pass(1);
            due.is("disk 2", Steps.lineOf(x, 2), line);
        }
        areLines(x, "s 1.99 0.99 1.0 0.0", "w");
    }

    private static void madeUntilNotDegraded() {
        due.term("until it is not degraded any more");
        VolumeShepherd x = Steps.array(9, 9, 9, 9);
        x.addTenant(3, 0);
        Steps.put(x, 0, 0, 1);
        Steps.put(x, 0, 1, 1);
        fail(x, 1, 2, 3);
        x.replace(1);
        x.replace(2);
        x.replace(3);
        areDisksOf(x, 0, 0, 0);
        areDisksOf(x, 0, 1, 0);
        due.is("openRebuilds()", x.openRebuilds(), 4);
        x.setHurry(2);
        x.pass(1);
        areDisksOf(x, 0, 0, 0, 1);
        areDisksOf(x, 0, 1, 0);
        due.is("degradedBlocks(), the hurry ended within the first", x.degradedBlocks(), 2);
        x.setHurry(4);
        x.pass(1);
        areDisksOf(x, 0, 0, 0, 1, 2);
        areDisksOf(x, 0, 1, 0, 3);
        due.is("degradedBlocks(), within the second", x.degradedBlocks(), 1);
        x.setHurry(20);
        x.pass(1);
        areDisksOf(x, 0, 1, 0, 3, 1);
        due.is("degradedBlocks()", x.degradedBlocks(), 0);
        x.pass(1);
        due.is("rebuilt(), not one more than wanted", x.rebuilt(), 4);
    }

    private static void madeWherePlacesAre() {
        due.term("or there is no place");
        VolumeShepherd x = Steps.array(3, 3, 1);
        x.addTenant(3, 0);
        x.addTenant(2, 0);
        Steps.put(x, 0, 0, 1);
        Steps.put(x, 1, 0, 1);
        areLines(x, "s 0.0 1.0", "s 0.0 1.0", "s 0.0");
        x.fail(1);
        due.is("openRebuilds(), no place for any", x.openRebuilds(), 0);
        x.pass(1);
        due.is("rebuilt(), no place for any", x.rebuilt(), 0);
        x.fail(2);
        x.replace(2);
        due.is("openRebuilds(), a place for the first", x.openRebuilds(), 1);
        x.pass(1);
        areDisksOf(x, 0, 0, 0, 2);
        areDisksOf(x, 1, 0, 0);
        x.addDisk(1);
        x.fail(2);
        x.pass(1);
        areDisksOf(x, 0, 0, 0, 3);
        x.replace(2);
        x.pass(1);
        areDisksOf(x, 0, 0, 0, 3, 2);
        areDisksOf(x, 1, 0, 0);
        VolumeShepherd y = Steps.array(2, 1, 2);
        y.addTenant(2, 0);
        Steps.put(y, 0, 0, 1);
        y.warn(2);
        y.fail(0);
        y.setHurry(0);
        Steps.put(y, 0, 1, 1);
        areStates(y, 1, "x");
        y.setHurry(2);
        y.pass(1);
        areDisksOf(y, 0, 0, 2, 1);
        due.is("rebuilt(), none is left to be moved to", y.rebuilt(), 1);
    }

    private static void lostIsNotRebuilt() {
        due.term("each block that is degraded and not lost");
        VolumeShepherd x = Steps.array(2, 2, 2, 2);
        x.addTenant(3, 0);
        Steps.put(x, 0, 0, 1);
        x.fail(2);
        x.rot(0, 0);
        x.rot(1, 0);
        x.warn(0);
        due.is("openRebuilds(), no good copy", x.openRebuilds(), 0);
        x.pass(1);
        areLines(x, "w 0.0!", "s 0.0!", "f", "s");
        Steps.put(x, 0, 1, 1);
        areStates(x, 1, "x");
        x.replace(2);
        Steps.put(x, 0, 0, 1);
        areLines(x, "w", "s 0.0", "s 0.0", "s 0.0");
        x.rot(1, 0);
        x.rot(2, 0);
        x.fail(0);
        x.replace(0);
        x.warn(1);
        due.is("openRebuilds(), one good copy", x.openRebuilds(), 1);
        x.pass(1);
        areLines(x, "s 0.0", "w", "s 0.0!", "s 0.0");
    }

    private static void movedFromTheOldestOn() {
        due.term("it moves copies ... from the oldest one on, that are on disks warned of");
        VolumeShepherd x = Steps.array(5, 4, 3, 2, 2, 2);
        x.addTenant(3, 0);
        Steps.put(x, 0, 0, 1);
        areDisksOf(x, 0, 0, 0, 1, 2);
        x.warn(0);
        x.warn(2);
        x.setHurry(2);
        x.pass(1);
        areDisksOf(x, 0, 0, 1, 2, 3);
        x.pass(1);
        areDisksOf(x, 0, 0, 1, 3, 4);
        x.pass(1);
        areDisksOf(x, 0, 0, 1, 3, 4);
        due.is("rebuilt()", x.rebuilt(), 2);
        x.fail(0);
        x.fail(2);
        x.replace(0);
        x.replace(2);
        x.warn(1);
        x.warn(3);
        x.warn(4);
        due.is("openRebuilds()", x.openRebuilds(), 3);
        x.setHurry(6);
        x.pass(1);
        areDisksOf(x, 0, 0, 0, 2, 5);
        areLines(x, "s 0.0", "w", "s 0.0", "w", "w", "s 0.0");
    }

    /** The hurry ends between two blocks, and within the second one. */
    private static void movedWithinTheHurry() {
        due.term("each copy that it makes or moves, as long as these are within the hurry");
        int[][] hurryAndMoved = {{1, 0}, {2, 1}, {5, 2}, {6, 3}, {8, 4}, {11, 5}, {12, 6}, {20, 6}};
        for (int[] pair : hurryAndMoved) {
            VolumeShepherd x = Steps.array(2, 2, 2);
            x.addTenant(3, 0);
            Steps.put(x, 0, 0, 1);
            Steps.put(x, 0, 1, 1);
            for (int disk = 0; disk < 3; disk++) {
                x.warn(disk);
                x.addDisk(2);
            }
            x.setHurry(pair[0]);
            x.pass(1);
            due.is("rebuilt() with the hurry " + pair[0], x.rebuilt(), pair[1]);
            int left = 0;
            for (int disk = 0; disk < 3; disk++) {
                left += x.usedOn(disk);
            }
            due.is("copies left with the hurry " + pair[0], left, 6 - pair[1]);
        }
    }

    private static void movedIfThereIsAPlace() {
        due.term("each one into a place, if there is one");
        VolumeShepherd x = Steps.array(2, 2);
        x.addTenant(2, 0);
        Steps.put(x, 0, 0, 1);
        x.warn(0);
        x.warn(1);
        due.is("openRebuilds(), no place", x.openRebuilds(), 0);
        x.pass(1);
        areDisksOf(x, 0, 0, 0, 1);
        x.addDisk(1);
        due.is("openRebuilds(), one place for two", x.openRebuilds(), 1);
        x.pass(1);
        areDisksOf(x, 0, 0, 1, 2);
        x.pass(1);
        areDisksOf(x, 0, 0, 1, 2);
        x.addDisk(1);
        x.pass(1);
        areDisksOf(x, 0, 0, 2, 3);
        due.is("rebuilt()", x.rebuilt(), 2);
    }

    private static void movedAfterAllAreMade() {
        due.term("twice. The first time, it makes copies");
        VolumeShepherd x = Steps.array(9, 9, 9);
        x.addTenant(1, 0);
        x.addTenant(2, 0);
        Steps.put(x, 0, 0, 1);
        Steps.put(x, 1, 0, 1);
        areLines(x, "s 0.0", "s 1.0", "s 1.0");
        x.fail(1);
        x.replace(1);
        x.warn(0);
        x.setHurry(2);
        x.pass(1);
        areLines(x, "w 0.0", "s 1.0", "s 1.0");
        x.pass(1);
        areLines(x, "w", "s 1.0 0.0", "s 1.0");
    }

    private static void movedOneIsGoodAndNewest() {
        due.term("a new good copy, the newest one of its block; a moved one is gone");
        VolumeShepherd x = Steps.array(2, 2, 1);
        x.addTenant(2, 0);
        Steps.put(x, 0, 0, 8);
        x.rot(0, 0);
        x.warn(0);
        x.pass(1);
        areLines(x, "w", "s 0.0", "s 0.0");
        areDisksOf(x, 0, 0, 1, 2);
        due.is("usedOn(0)", x.usedOn(0), 0);
        due.isThrown("rot(0, 0), free", NoSuchElementException.class, () -> x.rot(0, 0));
        x.fail(1);
        due.is("valueOf(0, 0), of the moved one", x.valueOf(0, 0), 8);
    }

    private static void openIsWhatOneRebuildingMakes() {
        due.promise(36);
        for (int hurry = 0; hurry <= 20; hurry += 20) {
            VolumeShepherd x = elevenToRebuild();
            x.setHurry(hurry);
            due.is("openRebuilds()", x.openRebuilds(), 11);
            x.addDisk(5);
            x.warn(0);
            due.is("openRebuilds(), five moved too", x.openRebuilds(), 16);
            due.is("openRebuilds() again", x.openRebuilds(), 16);
            due.is("rebuilt()", x.rebuilt(), 0);
        }
    }
}
