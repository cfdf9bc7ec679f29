import java.util.NoSuchElementException;

/** The last value that each promise accepts, and the first one that it refuses, on both sides. */
public final class LimitsTest {
    private static final Due due = new Due();

    private static final Class<IllegalArgumentException> ARGUMENT = IllegalArgumentException.class;
    private static final Class<IllegalStateException> STATE = IllegalStateException.class;
    private static final Class<IndexOutOfBoundsException> INDEX = IndexOutOfBoundsException.class;
    private static final Class<NoSuchElementException> ELEMENT = NoSuchElementException.class;

    public static void main(String[] args) {
        slotsOfDisk();
        numberOfDisks();
        firstAndLastDisk();
        copiesAndSpeed();
        numberOfTenants();
        firstAndLastTenant();
        hurry();
        firstAndLastBlock();
        values();
        fortyWaiting();
        threeHundredRequests();
        firstAndLastRequest();
        ticks();
        endOfClock();
        allBlocksOfTenant();
        indexOfCopy();
        losses();
        lossesOfFewDisks();
        lossesBesideFailedDisks();
        soundDisks();
        slots();
        meanCopies();
        usedShare();
        longestLine();
        due.end();
    }

    private static void slotsOfDisk() {
        due.promise(2);
        for (int slots : new int[] {1, 2, 31, 32}) {
            VolumeShepherd x = new VolumeShepherd();
            due.is("addDisk(" + slots + ")", x.addDisk(slots), 0);
            x.addTenant(1, 0);
            for (int block = 0; block <= slots; block++) {
                x.write(0, block, block);
            }
            x.pass(2);
            due.is("usedOn(0) of " + slots, x.usedOn(0), slots);
            due.is("state of the last write that fits", x.stateOf(slots - 1), 'd');
            due.is("state of the first write that does not", x.stateOf(slots), 'x');
        }
        for (int slots : new int[] {0, 33}) {
            due.isThrown("addDisk(" + slots + ")", ARGUMENT,
                    () -> new VolumeShepherd().addDisk(slots));
        }
    }

    private static void numberOfDisks() {
        due.promise(2);
        VolumeShepherd x = Steps.array(1, 1, 1, 1, 1, 1, 1);
        due.is("the eighth addDisk(32)", x.addDisk(32), 7);
        due.isThrown("the ninth addDisk(32)", STATE, () -> x.addDisk(32));
        for (int disk = 0; disk < 8; disk++) {
            x.fail(disk);
        }
        due.isThrown("addDisk(32), all have failed", STATE, () -> x.addDisk(32));
        due.promise(3);
        due.is("diskCount()", x.diskCount(), 8);
    }

    private static void firstAndLastDisk() {
        VolumeShepherd x = Steps.array(1, 2, 3);
        x.addTenant(3, 0);
        Steps.put(x, 0, 0, 0);
        for (int disk : new int[] {0, 2}) {
            String of = "(" + disk + ")";
            due.promise(4);
            due.is("diskState" + of, x.diskState(disk), 's');
            due.promise(5);
            due.is("usedOn" + of, x.usedOn(disk), 1);
            due.promise(34);
            due.is("rottenOn" + of, x.rottenOn(disk), 0);
            due.promise(33);
            due.is("scrub" + of, x.scrub(disk), 0);
            due.promise(40);
            due.is("writeDisk" + of, x.writeDisk(disk), 5);
            due.promise(31);
            due.is("warn" + of, x.warn(disk), 1);
            due.promise(29);
            due.is("fail" + of, x.fail(disk), 1);
            due.promise(30);
            due.is("replace" + of, x.replace(disk), 3);
        }
        due.promise(5);
        due.is("usedOn(1), between them", x.usedOn(1), 1);
        due.promise(4);
        due.is("diskState(1), between them", x.diskState(1), 's');
        due.isThrown("diskState(-1)", INDEX, () -> x.diskState(-1));
        due.isThrown("diskState(3)", INDEX, () -> x.diskState(3));
        x.addDisk(1);
        due.is("diskState(3), added", x.diskState(3), 's');
        due.isThrown("diskState(4)", INDEX, () -> x.diskState(4));
    }

    private static void copiesAndSpeed() {
        due.promise(6);
        int[][] accepted = {{1, 0}, {1, 20}, {3, 0}, {3, 20}};
        for (int[] pair : accepted) {
            VolumeShepherd x = Steps.array(4, 4, 4, 4);
            due.is("addTenant(" + pair[0] + ", " + pair[1] + ")",
                    x.addTenant(pair[0], pair[1]), 0);
            x.write(0, 0, 1);
            for (int request = 1; request < 30; request++) {
                x.read(0, 0);
            }
            x.pass(1);
            due.is("copiesOf(0, 0) of " + pair[0], x.copiesOf(0, 0), pair[0]);
            int served = 1 + (20 - pair[0]);
            due.is("creditsOf(0) of the speed " + pair[1], x.creditsOf(0),
                    Math.max(pair[1] - served, 0));
        }
        int[][] refused = {{0, 0}, {0, 20}, {4, 0}, {4, 20}, {1, -1}, {3, -1}, {1, 21}, {3, 21}};
        for (int[] pair : refused) {
            due.isThrown("addTenant(" + pair[0] + ", " + pair[1] + ")", ARGUMENT,
                    () -> new VolumeShepherd().addTenant(pair[0], pair[1]));
        }
    }

    private static void numberOfTenants() {
        due.promise(6);
        VolumeShepherd x = new VolumeShepherd();
        x.addTenant(1, 0);
        x.addTenant(1, 0);
        x.addTenant(1, 0);
        due.is("the fourth addTenant(1, 0)", x.addTenant(1, 0), 3);
        due.isThrown("the fifth addTenant(1, 0)", STATE, () -> x.addTenant(1, 0));
        due.promise(7);
        due.is("tenantCount()", x.tenantCount(), 4);
    }

    private static void firstAndLastTenant() {
        VolumeShepherd x = Steps.array(9);
        x.addTenant(1, 20);
        x.addTenant(1, 20);
        x.addTenant(1, 20);
        for (int tenant : new int[] {0, 2}) {
            String of = "Of(" + tenant + ")";
            due.promise(10);
            due.is("write", x.write(tenant, 0, 1), tenant / 2 * 21);
            for (int request = 0; request < 20; request++) {
                x.read(tenant, 0);
            }
            due.promise(13);
            due.is("waiting" + of, x.waitingOf(tenant), 21);
            x.pass(1);
            due.is("waiting" + of, x.waitingOf(tenant), 1);
            due.promise(14);
            due.is("served" + of, x.servedOf(tenant), 20);
            due.promise(15);
            due.is("credits" + of, x.creditsOf(tenant), 0);
            due.promise(16);
            due.is("breaches" + of, x.breachesOf(tenant), 0);
            due.promise(19);
            due.is("blocks" + of, x.blocksOf(tenant), 1);
            x.pass(1);
        }
        due.promise(19);
        due.is("blocksOf(1), between them", x.blocksOf(1), 0);
        due.promise(14);
        due.is("servedOf(1), between them", x.servedOf(1), 0);
        due.promise(9);
        due.isThrown("read(-1, 0)", INDEX, () -> x.read(-1, 0));
        due.isThrown("read(3, 0)", INDEX, () -> x.read(3, 0));
        x.addTenant(1, 20);
        due.is("read(3, 0), added", x.read(3, 0), 42);
        due.isThrown("read(4, 0)", INDEX, () -> x.read(4, 0));
    }

    private static void hurry() {
        due.promise(8);
        VolumeShepherd x = new VolumeShepherd();
        due.is("setHurry(0)", x.setHurry(0), 10);
        due.isThrown("setHurry(-1)", ARGUMENT, () -> x.setHurry(-1));
        due.is("setHurry(20)", x.setHurry(20), 0);
        due.isThrown("setHurry(21)", ARGUMENT, () -> x.setHurry(21));
        due.is("setHurry(20) again", x.setHurry(20), 20);
    }

    private static void firstAndLastBlock() {
        VolumeShepherd x = Steps.array(9);
        x.addTenant(1, 0);
        x.addTenant(1, 0);
        x.write(0, 0, 100);
        x.write(0, 99, 199);
        x.write(1, 0, 200);
        x.write(1, 99, 299);
        x.read(0, 99);
        x.read(1, 0);
        x.pass(1);
        due.promise(12);
        due.is("answer of read(0, 99)", x.answerTo(4), 199);
        due.is("answer of read(1, 0)", x.answerTo(5), 200);
        int[][] ends = {{0, 0, 100}, {0, 99, 199}, {1, 0, 200}, {1, 99, 299}};
        for (int[] end : ends) {
            String of = "Of(" + end[0] + ", " + end[1] + ")";
            due.promise(20);
            due.is("copies" + of, x.copiesOf(end[0], end[1]), 1);
            due.promise(21);
            due.is("copiesByDisks" + of, x.copiesByDisks(end[0], end[1]), 1);
            due.promise(22);
            due.is("diskOfCopy" + of, x.diskOfCopy(end[0], end[1], 0), 0);
            due.promise(23);
            due.is("value" + of, x.valueOf(end[0], end[1]), end[2]);
            due.promise(24);
            due.is("isLost" + of, x.isLost(end[0], end[1]), false);
        }
        due.promise(40);
        due.is("the line", Steps.lineOf(x, 0), "s 0.0 1.0 0.99 1.99");
        due.promise(9);
        due.isThrown("read(0, 100)", INDEX, () -> x.read(0, 100));
        due.isThrown("read(1, -1)", INDEX, () -> x.read(1, -1));
        due.promise(10);
        due.isThrown("write(0, 100, 0)", INDEX, () -> x.write(0, 100, 0));
        due.isThrown("write(1, -1, 0)", INDEX, () -> x.write(1, -1, 0));
    }

    private static void values() {
        VolumeShepherd x = Steps.array(9);
        x.addTenant(1, 0);
        due.promise(10);
        due.is("write(0, 0, 0)", x.write(0, 0, 0), 0);
        due.is("write(0, 1, 9999)", x.write(0, 1, 9999), 1);
        due.isThrown("write(0, 2, -1)", ARGUMENT, () -> x.write(0, 2, -1));
        due.isThrown("write(0, 2, 10000)", ARGUMENT, () -> x.write(0, 2, 10000));
        x.read(0, 0);
        x.read(0, 1);
        x.pass(1);
        due.promise(12);
        due.is("answerTo(2)", x.answerTo(2), 0);
        due.is("answerTo(3)", x.answerTo(3), 9999);
        due.promise(23);
        due.is("valueOf(0, 0)", x.valueOf(0, 0), 0);
        due.is("valueOf(0, 1)", x.valueOf(0, 1), 9999);
    }

    /** They are counted for all tenants together, and a served one makes room for one. */
    private static void fortyWaiting() {
        VolumeShepherd x = Steps.array(3, 3, 3);
        x.addTenant(3, 0);
        x.addTenant(1, 0);
        for (int request = 0; request < 38; request++) {
            x.write(0, 0, request);
        }
        due.promise(9);
        due.is("read, the 39th", x.read(1, 0), 38);
        due.promise(10);
        due.is("write, the 40th", x.write(1, 0, 1), 39);
        due.isThrown("write, the 41st", STATE, () -> x.write(1, 0, 1));
        due.promise(9);
        due.isThrown("read, the 41st", STATE, () -> x.read(0, 0));
        due.promise(13);
        due.is("waitingOf(0)", x.waitingOf(0), 38);
        due.is("waitingOf(1)", x.waitingOf(1), 2);
        x.pass(1);
        due.is("waitingOf(0), six writes served", x.waitingOf(0), 32);
        due.is("waitingOf(1)", x.waitingOf(1), 0);
        due.promise(9);
        for (int request = 40; request < 48; request++) {
            due.is("read, room again", x.read(1, 0), request);
        }
        due.isThrown("read, the 41st again", STATE, () -> x.read(1, 0));
        due.promise(10);
        due.isThrown("write, the 41st again", STATE, () -> x.write(0, 0, 0));
    }

    private static void threeHundredRequests() {
        VolumeShepherd x = Steps.array(3);
        x.addTenant(1, 0);
        x.addTenant(1, 0);
        for (int request = 0; request < 299; request++) {
            x.write(request % 2, 0, request);
            if (request % 40 == 39) {
                x.pass(2);
            }
        }
        due.promise(9);
        due.is("read, the 300th", x.read(1, 0), 299);
        due.isThrown("read, the 301st", STATE, () -> x.read(1, 0));
        due.promise(10);
        due.isThrown("write, the 301st", STATE, () -> x.write(1, 0, 0));
        x.pass(1);
        due.isThrown("write, the 301st, none waiting", STATE, () -> x.write(1, 0, 0));
        due.promise(9);
        due.isThrown("read, the 301st, none waiting", STATE, () -> x.read(1, 0));
        due.promise(11);
        due.is("stateOf(299)", x.stateOf(299), 'd');
        due.isThrown("stateOf(300)", INDEX, () -> x.stateOf(300));
        due.promise(12);
        due.is("answerTo(299)", x.answerTo(299), 297);
        due.isThrown("answerTo(300)", INDEX, () -> x.answerTo(300));
        due.promise(14);
        due.is("servedOf(0)", x.servedOf(0), 150);
        due.promise(13);
        due.is("waitingOf(0)", x.waitingOf(0), 0);
    }

    private static void firstAndLastRequest() {
        VolumeShepherd x = Steps.array(3);
        x.addTenant(1, 0);
        x.write(0, 0, 7);
        x.read(0, 0);
        x.pass(1);
        due.promise(11);
        due.is("stateOf(0)", x.stateOf(0), 'd');
        due.is("stateOf(1)", x.stateOf(1), 'd');
        due.isThrown("stateOf(-1)", INDEX, () -> x.stateOf(-1));
        due.isThrown("stateOf(2)", INDEX, () -> x.stateOf(2));
        due.promise(12);
        due.is("answerTo(1)", x.answerTo(1), 7);
        due.isThrown("answerTo(0), a write", ELEMENT, () -> x.answerTo(0));
        due.isThrown("answerTo(-1)", INDEX, () -> x.answerTo(-1));
        due.isThrown("answerTo(2)", INDEX, () -> x.answerTo(2));
        x.read(0, 0);
        due.isThrown("answerTo(2), waiting", ELEMENT, () -> x.answerTo(2));
        due.promise(11);
        due.is("stateOf(2)", x.stateOf(2), 'w');
    }

    private static void ticks() {
        due.promise(17);
        VolumeShepherd x = new VolumeShepherd();
        due.isThrown("pass(0)", ARGUMENT, () -> x.pass(0));
        due.is("pass(1)", x.pass(1), 1);
        due.isThrown("pass(51)", ARGUMENT, () -> x.pass(51));
        due.is("pass(50)", x.pass(50), 51);
        due.promise(18);
        due.is("clock()", x.clock(), 51);
    }

    private static void endOfClock() {
        for (int left = 1; left <= 50; left += 7) {
            VolumeShepherd x = Scene.atHour(9999 - left).make();
            int more = left + 1;
            due.promise(17);
            if (more <= 50) {
                due.isThrown("pass(" + more + ")", STATE, () -> x.pass(more));
            }
            due.isThrown("pass(0), " + left + " left", ARGUMENT, () -> x.pass(0));
            due.isThrown("pass(51), " + left + " left", ARGUMENT, () -> x.pass(51));
            due.is("pass(" + left + ")", x.pass(left), 9999);
            due.isThrown("pass(1) at 9999", STATE, () -> x.pass(1));
            due.promise(18);
            due.is("clock()", x.clock(), 9999);
        }
    }

    private static void allBlocksOfTenant() {
        VolumeShepherd x = Steps.array(32, 32, 32, 4);
        x.addTenant(1, 0);
        x.addTenant(1, 0);
        for (int block = 0; block < 100; block++) {
            x.write(0, block, block);
            if (block % 20 == 19) {
                x.pass(1);
            }
        }
        due.promise(19);
        due.is("blocksOf(0)", x.blocksOf(0), 100);
        due.is("blocksOf(1)", x.blocksOf(1), 0);
        due.promise(38);
        due.is("usedShare()", x.usedShare(), 1.0f);
        x.write(0, 99, 0);
        x.write(1, 0, 0);
        x.pass(1);
        due.promise(19);
        due.is("blocksOf(0), one written again", x.blocksOf(0), 100);
        due.is("blocksOf(1), no place", x.blocksOf(1), 0);
        x.fail(0);
        x.fail(1);
        x.fail(2);
        x.fail(3);
        due.is("blocksOf(0), all are lost", x.blocksOf(0), 100);
        due.promise(25);
        due.is("lostBlocks()", x.lostBlocks(), 100);
        due.promise(26);
        due.is("degradedBlocks()", x.degradedBlocks(), 100);
    }

    private static void indexOfCopy() {
        due.promise(22);
        for (int copies = 1; copies <= 3; copies++) {
            VolumeShepherd x = Steps.array(2, 2, 2);
            x.addTenant(copies, 0);
            due.isThrown("diskOfCopy(0, 0, 0), unwritten", ELEMENT, () -> x.diskOfCopy(0, 0, 0));
            Steps.put(x, 0, 0, 1);
            Steps.put(x, 0, 1, 1);
            int number = copies;
            due.is("diskOfCopy, the oldest", x.diskOfCopy(0, 0, 0), 0);
            due.is("diskOfCopy, the newest", x.diskOfCopy(0, 0, copies - 1), copies - 1);
            due.isThrown("diskOfCopy(0, 0, -1)", ELEMENT, () -> x.diskOfCopy(0, 0, -1));
            due.isThrown("diskOfCopy(0, 0, " + number + ")", ELEMENT,
                    () -> x.diskOfCopy(0, 0, number));
            due.isThrown("diskOfCopy(0, 1, -1)", ELEMENT, () -> x.diskOfCopy(0, 1, -1));
            due.isThrown("diskOfCopy(0, 0, 3)", ELEMENT, () -> x.diskOfCopy(0, 0, 3));
            x.fail(0);
            due.isThrown("diskOfCopy(0, 0, " + (number - 1) + ")", ELEMENT,
                    () -> x.diskOfCopy(0, 0, number - 1));
        }
    }

    /** With a block of one, two and three good copies in turn. */
    private static void losses() {
        for (int copies = 1; copies <= 3; copies++) {
            VolumeShepherd x = Steps.array(2, 2, 2, 2);
            x.addTenant(copies, 0);
            Steps.put(x, 0, 0, 1);
            doesBear(x, copies - 1, true);
            doesBear(x, copies, false);
            doesBear(x, 0, true);
            doesBear(x, 3, false);
            x.rot(0, 0);
            doesBear(x, copies == 1 ? 3 : copies - 2, true);
            if (copies > 1) {
                doesBear(x, copies - 1, false);
            }
        }
        VolumeShepherd x = Steps.array(2);
        due.promise(27);
        due.isThrown("doesBear(-1)", ARGUMENT, () -> x.doesBear(-1));
        due.isThrown("doesBear(4)", ARGUMENT, () -> x.doesBear(4));
        due.promise(28);
        due.isThrown("doesBearByTrying(-1)", ARGUMENT, () -> x.doesBearByTrying(-1));
        due.isThrown("doesBearByTrying(4)", ARGUMENT, () -> x.doesBearByTrying(4));
    }

    private static void doesBear(VolumeShepherd x, int losses, boolean want) {
        due.promise(27);
        due.is("doesBear(" + losses + ")", x.doesBear(losses), want);
        due.promise(28);
        due.is("doesBearByTrying(" + losses + ")", x.doesBearByTrying(losses), want);
    }

    /** All of them, if there are fewer disks. */
    private static void lossesOfFewDisks() {
        for (int disks = 1; disks <= 3; disks++) {
            VolumeShepherd x = new VolumeShepherd();
            for (int disk = 0; disk < disks; disk++) {
                x.addDisk(2);
            }
            x.addTenant(disks, 0);
            doesBear(x, 3, true);
            Steps.put(x, 0, 0, 1);
            for (int losses = 0; losses <= 3; losses++) {
                doesBear(x, losses, losses < disks);
            }
        }
    }

    /** Only disks that have not failed can fail, those warned of among them. */
    private static void lossesBesideFailedDisks() {
        VolumeShepherd x = Steps.array(2, 2, 2, 2, 2);
        x.addTenant(3, 0);
        Steps.put(x, 0, 0, 1);
        x.fail(3);
        x.fail(4);
        doesBear(x, 2, true);
        doesBear(x, 3, false);
        x.warn(0);
        x.warn(1);
        x.warn(2);
        doesBear(x, 2, true);
        doesBear(x, 3, false);
        x.fail(1);
        doesBear(x, 1, true);
        doesBear(x, 2, false);
        x.fail(0);
        doesBear(x, 0, true);
        doesBear(x, 1, false);
        doesBear(x, 3, false);
        x.fail(2);
        doesBear(x, 0, true);
        doesBear(x, 1, true);
        doesBear(x, 3, true);
    }

    private static void soundDisks() {
        due.promise(30);
        VolumeShepherd x = Steps.array(1, 1, 1, 1, 1, 1, 1, 1);
        for (int disk = 0; disk < 8; disk++) {
            x.fail(disk);
        }
        due.is("replace(0), the only sound one", x.replace(0), 1);
        for (int disk = 1; disk < 8; disk++) {
            due.is("replace(" + disk + ")", x.replace(disk), disk + 1);
        }
        x.warn(0);
        x.fail(7);
        due.is("replace(7) beside one warned of", x.replace(7), 7);
    }

    private static void slots() {
        VolumeShepherd x = Steps.array(32, 1);
        x.addTenant(1, 0);
        for (int block = 0; block < 33; block++) {
            x.write(0, block, block);
        }
        x.pass(2);
        due.promise(32);
        due.is("rot(0, 0)", x.rot(0, 0), false);
        due.is("rot(0, 31)", x.rot(0, 31), false);
        due.is("rot(1, 0)", x.rot(1, 0), false);
        due.isThrown("rot(0, -1)", INDEX, () -> x.rot(0, -1));
        due.isThrown("rot(0, 32)", INDEX, () -> x.rot(0, 32));
        due.isThrown("rot(1, -1)", INDEX, () -> x.rot(1, -1));
        due.isThrown("rot(1, 1)", INDEX, () -> x.rot(1, 1));
        due.promise(34);
        due.is("rottenOn(0)", x.rottenOn(0), 2);
        due.is("rottenOn(1)", x.rottenOn(1), 1);
    }

    private static void meanCopies() {
        due.promise(37);
        VolumeShepherd x = Steps.array(1, 1, 1);
        x.addTenant(1, 0);
        x.addTenant(3, 0);
        Steps.put(x, 1, 0, 1);
        due.is("meanCopies() of one block", x.meanCopies(), 3.0);
        Steps.put(x, 0, 0, 1);
        due.is("meanCopies(), a refused write beside it", x.meanCopies(), 3.0);
        x.fail(0);
        x.fail(1);
        due.is("meanCopies(), one left", x.meanCopies(), 1.0);
        x.fail(2);
        due.is("meanCopies(), none left", x.meanCopies(), 0.0);
    }

    private static void usedShare() {
        due.promise(38);
        VolumeShepherd x = Steps.array(1, 2);
        x.addTenant(1, 0);
        due.is("usedShare(), none used", x.usedShare(), 0.0f);
        for (int block = 0; block < 3; block++) {
            Steps.put(x, 0, block, block);
        }
        due.is("usedShare(), all used", x.usedShare(), 1.0f);
        x.fail(1);
        due.is("usedShare(), of the only one left", x.usedShare(), 1.0f);
        x.warn(0);
        due.is("usedShare(), of the one warned of", x.usedShare(), 1.0f);
        x.fail(0);
        due.isThrown("usedShare()", ArithmeticException.class, () -> x.usedShare());
    }

    /** A tenant, a block of two digits and "!" for each of 32 slots. */
    private static void longestLine() {
        VolumeShepherd x = Steps.array(32);
        for (int tenant = 0; tenant < 4; tenant++) {
            x.addTenant(1, 0);
        }
        StringBuilder want = new StringBuilder("s");
        for (int slot = 0; slot < 32; slot++) {
            int block = slot < 2 ? 9 + slot : 68 + slot;
            x.write(3, block, slot);
            want.append(" 3.").append(block).append(slot == 31 ? "!" : "");
        }
        x.pass(2);
        x.rot(0, 31);
        due.promise(40);
        due.is("the line", Steps.lineOf(x, 0), want.toString());
        for (int slot = 0; slot < 31; slot++) {
            x.rot(0, slot);
        }
        due.is("writeDisk(0)", x.writeDisk(0), 192);
        due.promise(41);
        due.is("lineAt(0)", x.lineAt(0), 's');
        due.is("lineAt(191)", x.lineAt(191), '!');
        due.isThrown("lineAt(-1)", INDEX, () -> x.lineAt(-1));
        due.isThrown("lineAt(192)", INDEX, () -> x.lineAt(192));
        x.fail(0);
        due.is("lineAt(191), until another line", x.lineAt(191), '!');
        due.promise(40);
        due.is("writeDisk(0), failed", x.writeDisk(0), 1);
        due.promise(41);
        due.is("lineAt(0)", x.lineAt(0), 'f');
        due.isThrown("lineAt(1)", INDEX, () -> x.lineAt(1));
    }
}
