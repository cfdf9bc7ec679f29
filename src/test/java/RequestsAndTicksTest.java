import java.util.NoSuchElementException;

/** Promises 9 to 18, and what the terms say of requests and ticks. */
public final class RequestsAndTicksTest {
    private static final Due due = new Due();

    public static void main(String[] args) {
        read();
        write();
        limitOfWaiting();
        limitOfRequests();
        stateOf();
        answerTo();
        waitingAndServed();
        rounds();
        unitsLeft();
        refusedRequestsTakeUnits();
        creditsAndBreaches();
        oneCredit();
        creditsWhileRebuilding();
        pass();
        clockEnds();
        due.end();
    }

    private static VolumeShepherd array(int disks, int slots) {
        VolumeShepherd x = new VolumeShepherd();
        for (int disk = 0; disk < disks; disk++) {
            x.addDisk(slots);
        }
        return x;
    }

    private static void read() {
        due.promise(9);
        VolumeShepherd x = array(1, 4);
        due.isThrown("read(0, 0) of no tenant", IndexOutOfBoundsException.class,
                () -> x.read(0, 0));
        x.addTenant(1, 0);
        due.is("read(0, 0)", x.read(0, 0), 0);
        due.is("read(0, 99)", x.read(0, 99), 1);
        due.is("write(0, 99, 5)", x.write(0, 99, 5), 2);
        due.is("read(0, 99)", x.read(0, 99), 3);
        int[][] wrong = {{-1, 0}, {1, 0}, {4, 0}, {0, -1}, {0, 100}, {1, 100},
            {Integer.MAX_VALUE, 0}, {0, Integer.MIN_VALUE}};
        for (int[] pair : wrong) {
            due.isThrown("read(" + pair[0] + ", " + pair[1] + ")",
                    IndexOutOfBoundsException.class, () -> x.read(pair[0], pair[1]));
        }
        due.is("waitingOf(0) after the refusals", x.waitingOf(0), 4);
        x.pass(1);
        due.is("stateOf(0) of an unwritten block", x.stateOf(0), 'x');
        due.is("stateOf(1) before it is written", x.stateOf(1), 'x');
        due.is("stateOf(3)", x.stateOf(3), 'd');
        due.is("answerTo(3)", x.answerTo(3), 5);
        x.rot(0, 0);
        x.read(0, 99);
        x.pass(1);
        due.is("state of a read of a lost block", x.stateOf(4), 'x');
    }

    private static void write() {
        due.promise(10);
        VolumeShepherd x = array(3, 8);
        due.isThrown("write(0, 0, 0) of no tenant", IndexOutOfBoundsException.class,
                () -> x.write(0, 0, 0));
        x.addTenant(2, 0);
        int[][] wrong = {{-1, 0}, {1, 0}, {0, -1}, {0, 100}, {Integer.MIN_VALUE, 7}};
        for (int[] pair : wrong) {
            due.isThrown("write(" + pair[0] + ", " + pair[1] + ", 10000)",
                    IndexOutOfBoundsException.class, () -> x.write(pair[0], pair[1], 10000));
        }
        int[] wrongValues = {-1, 10000, Integer.MAX_VALUE, Integer.MIN_VALUE};
        for (int value : wrongValues) {
            due.isThrown("write(0, 0, " + value + ")", IllegalArgumentException.class,
                    () -> x.write(0, 0, value));
        }
        due.is("write(0, 0, 0)", x.write(0, 0, 0), 0);
        due.is("write(0, 99, 9999)", x.write(0, 99, 9999), 1);
        due.is("blocksOf(0) ahead of the tick", x.blocksOf(0), 0);
        x.pass(1);
        due.is("valueOf(0, 0)", x.valueOf(0, 0), 0);
        due.is("valueOf(0, 99)", x.valueOf(0, 99), 9999);
        due.is("diskOfCopy(0, 99, 0)", x.diskOfCopy(0, 99, 0), 2);
        due.is("diskOfCopy(0, 99, 1)", x.diskOfCopy(0, 99, 1), 0);
        writeOverCopies();
        writeOverLost();
        refusedWriteLeavesLostBlock();
    }

    private static void writeOverCopies() {
        VolumeShepherd x = array(3, 8);
        x.addTenant(3, 0);
        x.write(0, 4, 1);
        x.pass(1);
        x.rot(0, 0);
        x.setHurry(0);
        x.fail(2);
        x.replace(2);
        x.write(0, 4, 2);
        x.pass(1);
        due.is("valueOf after the second write", x.valueOf(0, 4), 2);
        due.is("rottenOn(0) after the second write", x.rottenOn(0), 0);
        due.is("copiesOf, still degraded", x.copiesOf(0, 4), 2);
        x.warn(0);
        x.warn(1);
        x.write(0, 4, 3);
        x.pass(1);
        due.is("valueOf with copies on disks warned of", x.valueOf(0, 4), 3);
        due.is("diskOfCopy(0, 4, 0), not moved by the write", x.diskOfCopy(0, 4, 0), 0);
        due.is("servedOf(0)", x.servedOf(0), 3);
    }

    private static void writeOverLost() {
        VolumeShepherd x = array(2, 2);
        x.addTenant(2, 0);
        x.write(0, 0, 1);
        x.write(0, 1, 1);
        x.pass(1);
        x.rot(0, 0);
        x.rot(1, 0);
        x.write(0, 0, 2);
        x.pass(1);
        due.is("state of a write whose own slots become free", x.stateOf(2), 'd');
        due.is("valueOf(0, 0)", x.valueOf(0, 0), 2);
        due.is("rottenOn(0)", x.rottenOn(0), 0);
        due.is("usedOn(0)", x.usedOn(0), 2);
        x.addDisk(9);
        x.rot(0, 0);
        x.rot(1, 0);
        x.write(0, 0, 3);
        x.pass(1);
        due.is("diskOfCopy(0, 0, 0), by the most free slots", x.diskOfCopy(0, 0, 0), 2);
        due.is("diskOfCopy(0, 0, 1), by the lowest number", x.diskOfCopy(0, 0, 1), 0);
        due.is("usedOn(1)", x.usedOn(1), 1);
        due.is("blocksOf(0)", x.blocksOf(0), 2);
    }

    private static void refusedWriteLeavesLostBlock() {
        VolumeShepherd x = array(3, 1);
        x.addTenant(2, 0);
        x.write(0, 7, 70);
        x.pass(1);
        x.rot(0, 0);
        x.rot(1, 0);
        x.warn(0);
        x.fail(2);
        x.write(0, 7, 71);
        x.write(0, 8, 80);
        x.pass(1);
        due.is("state of the write of a lost block", x.stateOf(1), 'x');
        due.is("state of the write of an unwritten block", x.stateOf(2), 'x');
        due.is("copiesOf(0, 7)", x.copiesOf(0, 7), 2);
        due.is("copiesByDisks(0, 7)", x.copiesByDisks(0, 7), 2);
        due.is("diskOfCopy(0, 7, 0)", x.diskOfCopy(0, 7, 0), 0);
        due.is("diskOfCopy(0, 7, 1)", x.diskOfCopy(0, 7, 1), 1);
        due.is("rottenOn(1)", x.rottenOn(1), 1);
        due.is("isLost(0, 7)", x.isLost(0, 7), true);
        due.is("blocksOf(0)", x.blocksOf(0), 1);
        due.is("copiesOf(0, 8)", x.copiesOf(0, 8), 0);
        due.is("isLost(0, 8)", x.isLost(0, 8), false);
    }

    private static void limitOfWaiting() {
        due.promise(9);
        VolumeShepherd x = array(1, 4);
        x.addTenant(1, 0);
        x.addTenant(1, 0);
        for (int request = 0; request < 40; request++) {
            due.is("read", x.read(request % 2, 0), request);
        }
        due.isThrown("read(0, 0) beside 40", IllegalStateException.class, () -> x.read(0, 0));
        due.isThrown("read(2, 0) beside 40", IndexOutOfBoundsException.class,
                () -> x.read(2, 0));
        due.promise(10);
        due.isThrown("write(0, 0, 0) beside 40", IllegalStateException.class,
                () -> x.write(0, 0, 0));
        due.isThrown("write(0, 0, -1) beside 40", IllegalArgumentException.class,
                () -> x.write(0, 0, -1));
        due.isThrown("write(0, 100, 0) beside 40", IndexOutOfBoundsException.class,
                () -> x.write(0, 100, 0));
        x.pass(1);
        due.is("write(0, 0, 0) beside 20", x.write(0, 0, 0), 40);
        due.is("waitingOf(0)", x.waitingOf(0), 11);
        due.is("waitingOf(1)", x.waitingOf(1), 10);
    }

    private static void limitOfRequests() {
        due.promise(9);
        VolumeShepherd x = array(1, 4);
        x.addTenant(1, 0);
        for (int request = 0; request < 299; request++) {
            due.is("read(0, 3)", x.read(0, 3), request);
            if (request % 20 == 19) {
                x.pass(1);
            }
        }
        due.is("write(0, 3, 8)", x.write(0, 3, 8), 299);
        due.isThrown("read(0, 3) after 300", IllegalStateException.class, () -> x.read(0, 3));
        due.promise(10);
        due.isThrown("write(0, 3, 1) after 300", IllegalStateException.class,
                () -> x.write(0, 3, 1));
        x.pass(1);
        due.isThrown("write(0, 3, 1) after 300 served", IllegalStateException.class,
                () -> x.write(0, 3, 1));
        due.is("servedOf(0)", x.servedOf(0), 300);
        due.is("stateOf(299)", x.stateOf(299), 'd');
        due.isThrown("stateOf(300)", IndexOutOfBoundsException.class, () -> x.stateOf(300));
    }

    private static void stateOf() {
        due.promise(11);
        VolumeShepherd x = array(1, 1);
        x.addTenant(1, 0);
        due.isThrown("stateOf(0) of none", IndexOutOfBoundsException.class, () -> x.stateOf(0));
        x.write(0, 0, 1);
        x.write(0, 1, 1);
        x.read(0, 0);
        x.read(0, 1);
        for (int request = 0; request < 4; request++) {
            due.is("stateOf(" + request + ")", x.stateOf(request), 'w');
        }
        x.pass(1);
        due.is("stateOf(0)", x.stateOf(0), 'd');
        due.is("stateOf(1)", x.stateOf(1), 'x');
        due.is("stateOf(2)", x.stateOf(2), 'd');
        due.is("stateOf(3)", x.stateOf(3), 'x');
        int[] wrong = {-1, 4, 300, Integer.MAX_VALUE, Integer.MIN_VALUE};
        for (int request : wrong) {
            due.isThrown("stateOf(" + request + ")", IndexOutOfBoundsException.class,
                    () -> x.stateOf(request));
        }
    }

    private static void answerTo() {
        due.promise(12);
        VolumeShepherd x = array(1, 1);
        x.addTenant(1, 0);
        x.read(0, 0);
        x.write(0, 0, 41);
        x.read(0, 0);
        x.write(0, 0, 42);
        x.read(0, 0);
        due.isThrown("answerTo(0), waiting", NoSuchElementException.class, () -> x.answerTo(0));
        due.isThrown("answerTo(1), waiting", NoSuchElementException.class, () -> x.answerTo(1));
        x.pass(1);
        due.isThrown("answerTo(0), refused", NoSuchElementException.class, () -> x.answerTo(0));
        due.isThrown("answerTo(1), a write", NoSuchElementException.class, () -> x.answerTo(1));
        due.is("answerTo(2), the value then", x.answerTo(2), 41);
        due.is("answerTo(4)", x.answerTo(4), 42);
        x.fail(0);
        due.is("answerTo(4) after the disk failed", x.answerTo(4), 42);
        int[] wrong = {-1, 5, 300, Integer.MAX_VALUE, Integer.MIN_VALUE};
        for (int request : wrong) {
            due.isThrown("answerTo(" + request + ")", IndexOutOfBoundsException.class,
                    () -> x.answerTo(request));
        }
    }

    private static void waitingAndServed() {
        VolumeShepherd x = array(2, 9);
        x.addTenant(2, 0);
        x.addTenant(1, 0);
        for (int i = 0; i < 15; i++) {
            x.read(0, 0);
            x.read(1, 0);
        }
        due.promise(13);
        due.is("waitingOf(0)", x.waitingOf(0), 15);
        due.is("waitingOf(1)", x.waitingOf(1), 15);
        x.pass(1);
        due.is("waitingOf(0)", x.waitingOf(0), 5);
        due.is("waitingOf(1)", x.waitingOf(1), 5);
        due.promise(14);
        due.is("servedOf(0), refused ones", x.servedOf(0), 10);
        x.write(0, 0, 1);
        x.pass(1);
        due.is("servedOf(0)", x.servedOf(0), 16);
        due.is("servedOf(1)", x.servedOf(1), 15);
        due.promise(13);
        due.is("waitingOf(0)", x.waitingOf(0), 0);
        int[] wrong = {-1, 2, 4, Integer.MAX_VALUE, Integer.MIN_VALUE};
        for (int tenant : wrong) {
            due.promise(13);
            due.isThrown("waitingOf(" + tenant + ")", IndexOutOfBoundsException.class,
                    () -> x.waitingOf(tenant));
            due.promise(14);
            due.isThrown("servedOf(" + tenant + ")", IndexOutOfBoundsException.class,
                    () -> x.servedOf(tenant));
            due.promise(15);
            due.isThrown("creditsOf(" + tenant + ")", IndexOutOfBoundsException.class,
                    () -> x.creditsOf(tenant));
            due.promise(16);
            due.isThrown("breachesOf(" + tenant + ")", IndexOutOfBoundsException.class,
                    () -> x.breachesOf(tenant));
        }
    }

    /** One request of each tenant a round, in ascending order, the oldest one first. */
    private static void rounds() {
        due.promise(17);
        VolumeShepherd x = array(1, 3);
        for (int tenant = 0; tenant < 3; tenant++) {
            x.addTenant(1, 0);
        }
        x.write(2, 0, 1);
        x.write(1, 0, 1);
        x.write(1, 1, 1);
        x.write(0, 0, 1);
        x.write(0, 1, 1);
        x.pass(1);
        due.is("writeDisk(0)", x.writeDisk(0), 13);
        StringBuilder line = new StringBuilder();
        for (int index = 0; index < 13; index++) {
            line.append(x.lineAt(index));
        }
        due.is("the line", line.toString(), "s 0.0 1.0 2.0");
        due.is("stateOf(4), in the second round", x.stateOf(4), 'x');
        due.is("stateOf(2), in the second round", x.stateOf(2), 'x');
    }

    /** A request that is too dear for the units left waits, while cheaper ones are served. */
    private static void unitsLeft() {
        due.promise(17);
        VolumeShepherd x = array(3, 32);
        x.addTenant(3, 0);
        x.addTenant(1, 0);
        for (int i = 0; i < 8; i++) {
            x.write(0, i, i);
        }
        for (int i = 0; i < 12; i++) {
            x.read(1, i);
        }
        x.pass(1);
        due.is("servedOf(0)", x.servedOf(0), 5);
        due.is("servedOf(1)", x.servedOf(1), 5);
        VolumeShepherd y = array(3, 32);
        y.addTenant(3, 0);
        y.addTenant(1, 0);
        for (int i = 0; i < 8; i++) {
            y.write(0, i, i);
        }
        y.read(0, 0);
        y.read(1, 0);
        y.read(1, 0);
        y.read(1, 0);
        y.read(1, 0);
        y.pass(1);
        due.is("servedOf(0) of 5 writes", y.servedOf(0), 5);
        due.is("servedOf(1) of 4 reads", y.servedOf(1), 4);
        due.is("stateOf(5), too dear", y.stateOf(5), 'w');
        due.is("stateOf(8), behind a dear one", y.stateOf(8), 'w');
        y.pass(1);
        due.is("servedOf(0)", y.servedOf(0), 9);
        VolumeShepherd z = array(3, 32);
        z.addTenant(3, 0);
        z.addTenant(1, 0);
        for (int i = 0; i < 7; i++) {
            z.write(0, i, i);
        }
        for (int i = 0; i < 3; i++) {
            z.read(1, 0);
        }
        z.pass(1);
        due.is("servedOf(0), 15 units, 3 by the other, 2 left", z.servedOf(0), 5);
        due.is("servedOf(1)", z.servedOf(1), 3);
    }

    private static void refusedRequestsTakeUnits() {
        due.promise(17);
        VolumeShepherd x = array(1, 32);
        x.addTenant(2, 0);
        for (int i = 0; i < 11; i++) {
            x.write(0, i, i);
        }
        x.pass(1);
        due.is("servedOf(0), all refused", x.servedOf(0), 10);
        due.is("stateOf(9)", x.stateOf(9), 'x');
        due.is("stateOf(10)", x.stateOf(10), 'w');
    }

    private static void creditsAndBreaches() {
        VolumeShepherd x = array(1, 32);
        x.addTenant(1, 20);
        x.addTenant(1, 3);
        x.addTenant(1, 0);
        for (int i = 0; i < 13; i++) {
            x.read(0, 0);
            x.read(1, 0);
            x.read(2, 0);
        }
        x.pass(1);
        due.promise(15);
        due.is("creditsOf(0), 7 of 13", x.creditsOf(0), 6);
        due.is("creditsOf(1)", x.creditsOf(1), 0);
        due.is("creditsOf(2)", x.creditsOf(2), 0);
        due.promise(16);
        due.is("breachesOf(0)", x.breachesOf(0), 1);
        due.is("breachesOf(1)", x.breachesOf(1), 0);
        x.pass(1);
        due.promise(15);
        due.is("creditsOf(0), 6 of 6", x.creditsOf(0), 6);
        due.promise(16);
        due.is("breachesOf(0)", x.breachesOf(0), 1);
        VolumeShepherd y = array(1, 32);
        y.addTenant(1, 20);
        y.addTenant(1, 20);
        for (int i = 0; i < 20; i++) {
            y.read(0, 0);
            y.read(1, 0);
        }
        y.pass(2);
        due.promise(15);
        due.is("creditsOf(0), 10 of 20, 10 of 10", y.creditsOf(0), 10);
        due.is("creditsOf(1)", y.creditsOf(1), 10);
        due.promise(16);
        due.is("breachesOf(1)", y.breachesOf(1), 1);
    }

    /** A write of 3 units does not fit beside 18 units: one of the promised 7 is lacking. */
    private static void oneCredit() {
        VolumeShepherd x = array(3, 32);
        x.addTenant(3, 7);
        x.addTenant(1, 0);
        for (int i = 0; i < 7; i++) {
            x.write(0, i, i);
        }
        x.pass(1);
        due.promise(15);
        due.is("creditsOf(0)", x.creditsOf(0), 1);
        due.is("creditsOf(1)", x.creditsOf(1), 0);
        due.promise(16);
        due.is("breachesOf(0)", x.breachesOf(0), 1);
        x.pass(9);
        due.is("breachesOf(0), nothing waiting", x.breachesOf(0), 1);
        due.promise(15);
        due.is("creditsOf(0), nothing waiting", x.creditsOf(0), 1);
    }

    /** Rebuilding takes 10 units a tick, so that 10 of the 12 promised reads are served. */
    private static void creditsWhileRebuilding() {
        VolumeShepherd x = array(2, 32);
        x.addTenant(2, 12);
        for (int block = 0; block < 20; block++) {
            x.write(0, block, block);
        }
        x.pass(2);
        int before = x.creditsOf(0);
        due.promise(15);
        due.is("creditsOf(0), 10 of 12, then 10 of 10", before, 2);
        x.fail(0);
        x.replace(0);
        for (int i = 0; i < 30; i++) {
            x.read(0, i % 20);
        }
        x.pass(2);
        due.is("creditsOf(0), 10 of 12 twice", x.creditsOf(0), 6);
        due.promise(16);
        due.is("breachesOf(0)", x.breachesOf(0), 3);
        due.promise(35);
        due.is("rebuilt()", x.rebuilt(), 10);
        due.promise(14);
        due.is("servedOf(0)", x.servedOf(0), 40);
    }

    private static void pass() {
        due.promise(17);
        VolumeShepherd x = new VolumeShepherd();
        due.is("pass(1)", x.pass(1), 1);
        due.is("pass(50)", x.pass(50), 51);
        due.promise(18);
        due.is("clock()", x.clock(), 51);
        due.promise(17);
        int[] wrong = {0, -1, 51, Integer.MAX_VALUE, Integer.MIN_VALUE};
        for (int ticks : wrong) {
            due.isThrown("pass(" + ticks + ")", IllegalArgumentException.class,
                    () -> x.pass(ticks));
        }
        due.promise(18);
        due.is("clock() after the refusals", x.clock(), 51);
    }

    private static void clockEnds() {
        due.promise(17);
        VolumeShepherd x = new VolumeShepherd();
        x.addTenant(1, 0);
        for (int i = 1; i <= 199; i++) {
            due.is("pass(50)", x.pass(50), i * 50);
        }
        x.read(0, 0);
        due.isThrown("pass(50) at 9950", IllegalStateException.class, () -> x.pass(50));
        due.isThrown("pass(51) at 9950", IllegalArgumentException.class, () -> x.pass(51));
        due.is("waitingOf(0), nothing has passed", x.waitingOf(0), 1);
        due.is("pass(49)", x.pass(49), 9999);
        due.isThrown("pass(1) at 9999", IllegalStateException.class, () -> x.pass(1));
        due.isThrown("pass(0) at 9999", IllegalArgumentException.class, () -> x.pass(0));
        due.promise(18);
        due.is("clock()", x.clock(), 9999);
    }
}
