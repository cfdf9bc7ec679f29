/** The example in README.md, and the answers that are told beside it. */
public final class ReadmeTest {
    private static final Due due = new Due();

    public static void main(String[] args) {
        due.promise(17);
        VolumeShepherd array = new VolumeShepherd();
        due.is("addDisk(8)", array.addDisk(8), 0);
        due.is("addDisk(8)", array.addDisk(8), 1);
        due.is("addDisk(4)", array.addDisk(4), 2);
        int tenant = array.addTenant(2, 5);
        due.is("write(tenant, 17, 4711)", array.write(tenant, 17, 4711), 0);
        int request = array.read(tenant, 17);
        due.is("read(tenant, 17)", request, 1);
        array.pass(1);
        due.is("answerTo(request)", array.answerTo(request), 4711);
        faults(array);
        due.end();
    }

    private static void faults(VolumeShepherd array) {
        due.promise(35);
        due.is("fail(0)", array.fail(0), 1);
        due.is("degradedBlocks()", array.degradedBlocks(), 1);
        array.pass(1);
        due.is("disk 2", Steps.lineOf(array, 2), "s 0.17");
        due.is("replace(0)", array.replace(0), 3);
        due.is("warn(1)", array.warn(1), 1);
        array.pass(1);
        due.is("disk 0", Steps.lineOf(array, 0), "s 0.17");
        due.is("rebuilt()", array.rebuilt(), 2);
        due.is("rot(2, 0)", array.rot(2, 0), false);
        due.is("writeDisk(2)", array.writeDisk(2), 7);
        due.is("the line", Steps.lineOf(array, 2), "s 0.17!");
        due.is("scrub(2)", array.scrub(2), 1);
    }
}
