/** Promises 37 to 41. */
public final class FiguresAndLineTest {
    private static final Due due = new Due();

    public static void main(String[] args) {
        meanCopies();
        usedShare();
        isConsistent();
        line();
        fullLine();
        wrongDisksLeaveTheLine();
        due.end();
    }

    private static void meanCopies() {
        due.promise(37);
        VolumeShepherd x = Steps.array(9, 9, 9);
        x.addTenant(3, 0);
        x.addTenant(1, 0);
        due.isThrown("meanCopies()", ArithmeticException.class, () -> x.meanCopies());
        x.write(0, 0, 1);
        due.isThrown("meanCopies(), not served", ArithmeticException.class,
                () -> x.meanCopies());
        x.pass(1);
        due.is("meanCopies()", x.meanCopies(), 3.0);
        Steps.put(x, 1, 0, 1);
        Steps.put(x, 1, 1, 1);
        due.is("meanCopies()", x.meanCopies(), 5.0 / 3.0);
        x.rot(0, 0);
        due.is("meanCopies(), a rotten one", x.meanCopies(), 5.0 / 3.0);
        x.fail(1);
        due.is("meanCopies(), a lost one", x.meanCopies(), 3.0 / 3.0);
        x.fail(0);
        x.fail(2);
        due.is("meanCopies(), no copy", x.meanCopies(), 0.0);
    }

    private static void usedShare() {
        due.promise(38);
        VolumeShepherd x = new VolumeShepherd();
        due.isThrown("usedShare()", ArithmeticException.class, () -> x.usedShare());
        x.addDisk(2);
        x.addDisk(1);
        x.addTenant(1, 0);
        due.is("usedShare()", x.usedShare(), 0.0f);
        Steps.put(x, 0, 0, 1);
        due.is("usedShare()", x.usedShare(), 1.0f / 3.0f);
        Steps.put(x, 0, 1, 1);
        x.rot(0, 0);
        due.is("usedShare(), a rotten one", x.usedShare(), 2.0f / 3.0f);
        x.warn(1);
        due.is("usedShare(), warned of", x.usedShare(), 2.0f / 3.0f);
        x.fail(1);
        due.is("usedShare(), one failed", x.usedShare(), (float) x.usedOn(0) / 2.0f);
        x.fail(0);
        due.isThrown("usedShare(), all failed", ArithmeticException.class,
                () -> x.usedShare());
        x.replace(1);
        due.is("usedShare(), replaced", x.usedShare(), 0.0f);
    }

    private static void isConsistent() {
        due.promise(39);
        VolumeShepherd x = Steps.array(3, 3, 3, 3);
        x.addTenant(3, 0);
        due.is("isConsistent()", x.isConsistent(), true);
        for (int block = 0; block < 4; block++) {
            Steps.put(x, 0, block, block);
        }
        due.is("isConsistent(), full", x.isConsistent(), true);
        x.rot(1, 1);
        x.fail(0);
        due.is("isConsistent(), failed", x.isConsistent(), true);
        x.warn(1);
        x.addDisk(9);
        x.pass(3);
        due.is("isConsistent(), moved", x.isConsistent(), true);
        x.fail(2);
        x.fail(3);
        x.fail(4);
        due.is("isConsistent(), many failed", x.isConsistent(), true);
    }

    private static void isLine(VolumeShepherd x, int disk, String want) {
        due.promise(40);
        due.is("writeDisk(" + disk + ")", x.writeDisk(disk), want.length());
        isStillLine(x, want);
    }

    private static void isStillLine(VolumeShepherd x, String want) {
        due.promise(41);
        for (int index = 0; index < want.length(); index++) {
            due.is("lineAt(" + index + ") of " + want, x.lineAt(index), want.charAt(index));
        }
        int[] wrong = {-1, want.length(), 193, Integer.MAX_VALUE, Integer.MIN_VALUE};
        for (int index : wrong) {
            due.isThrown("lineAt(" + index + ")", IndexOutOfBoundsException.class,
                    () -> x.lineAt(index));
        }
    }

    private static void line() {
        VolumeShepherd x = Steps.array(4, 4);
        isStillLine(x, "");
        x.addTenant(2, 0);
        x.addTenant(1, 0);
        x.addTenant(2, 0);
        isLine(x, 0, "s");
        Steps.put(x, 0, 17, 1);
        Steps.put(x, 2, 5, 1);
        Steps.put(x, 1, 99, 1);
        Steps.put(x, 1, 0, 1);
        isLine(x, 0, "s 0.17 2.5 1.99");
        isLine(x, 1, "s 0.17 2.5 1.0");
        x.rot(0, 1);
        isStillLine(x, "s 0.17 2.5 1.0");
        isLine(x, 0, "s 0.17 2.5! 1.99");
        x.rot(0, 2);
        x.warn(0);
        x.setHurry(0);
        isLine(x, 0, "w 0.17 2.5! 1.99!");
        x.fail(0);
        isStillLine(x, "w 0.17 2.5! 1.99!");
        isLine(x, 0, "f");
        x.addDisk(9);
        x.setHurry(2);
        x.warn(1);
        x.pass(2);
        isLine(x, 1, "w 0.17 2.5 1.0");
        x.pass(1);
        isLine(x, 1, "w 0.17 2.5");
        isLine(x, 2, "s 0.17 2.5 1.0");
    }

    private static void fullLine() {
        VolumeShepherd x = Steps.array(32);
        StringBuilder want = new StringBuilder("s");
        for (int tenant = 0; tenant < 4; tenant++) {
            x.addTenant(1, 0);
        }
        for (int i = 0; i < 32; i++) {
            Steps.put(x, 3, 99 - i, i);
            x.rot(0, i);
            want.append(" 3.").append(99 - i).append('!');
        }
        isLine(x, 0, want.toString());
        x.fail(0);
        isLine(x, 0, "f");
    }

    private static void wrongDisksLeaveTheLine() {
        VolumeShepherd x = Steps.array(4);
        x.addTenant(1, 0);
        Steps.put(x, 0, 1, 1);
        isLine(x, 0, "s 0.1");
        int[] wrong = {-1, 1, 8, Integer.MAX_VALUE, Integer.MIN_VALUE};
        for (int disk : wrong) {
            due.promise(40);
            due.isThrown("writeDisk(" + disk + ")", IndexOutOfBoundsException.class,
                    () -> x.writeDisk(disk));
        }
        isStillLine(x, "s 0.1");
    }
}
