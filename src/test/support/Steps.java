/** Steps that many tests take. */
final class Steps {
    private Steps() {
    }

    /** Returns an array with a disk for each number of slots. */
    static VolumeShepherd array(int... slots) {
        VolumeShepherd x = new VolumeShepherd();
        for (int number : slots) {
            x.addDisk(number);
        }
        return x;
    }

    static void put(VolumeShepherd x, int tenant, int block, int value) {
        x.write(tenant, block, value);
        x.pass(1);
    }

    static String lineOf(VolumeShepherd x, int disk) {
        int length = x.writeDisk(disk);
        StringBuilder line = new StringBuilder();
        for (int index = 0; index < length; index++) {
            line.append(x.lineAt(index));
        }
        return line.toString();
    }
}
