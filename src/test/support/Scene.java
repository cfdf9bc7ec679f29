import java.util.List;
import java.util.function.Supplier;

/** An array after certain calls, made anew as often as it is wanted. */
final class Scene {
    final String name;
    private final Supplier<VolumeShepherd> maker;
    private List<String> looks;

    private Scene(String name, Supplier<VolumeShepherd> maker) {
        this.name = name;
        this.maker = maker;
    }

    VolumeShepherd make() {
        return maker.get();
    }

    /** All that can be seen of the array, by the parts of Look. */
    List<String> looks() {
        if (looks == null) {
            looks = Look.all(maker);
        }
        return looks;
    }

    static Scene empty() {
        return new Scene("empty", VolumeShepherd::new);
    }

    /** Disks, blocks and requests in all their states, a line, and a hurry of its own. */
    static Scene mixed() {
        return new Scene("mixed", Scene::makeMixed);
    }

    /** All slots used, 8 disks, 4 tenants, 40 requests waiting. */
    static Scene full() {
        return new Scene("full", Scene::makeFull);
    }

    /** There have been 300 requests, none of which is waiting. */
    static Scene askedOut() {
        return new Scene("asked out", Scene::makeAskedOut);
    }

    /** The clock is at the hour, with a block to rebuild and requests waiting. */
    static Scene atHour(int hour) {
        return new Scene("at " + hour, () -> makeAtHour(hour));
    }

    /** Two disks, and both have failed. */
    static Scene allFailed() {
        return new Scene("all failed", Scene::makeAllFailed);
    }

    private static VolumeShepherd makeMixed() {
        VolumeShepherd x = Steps.array(6, 6, 6, 3, 1);
        x.addTenant(2, 20);
        x.addTenant(3, 5);
        x.addTenant(1, 0);
        Steps.put(x, 2, 7, 30);
        Steps.put(x, 0, 0, 10);
        Steps.put(x, 1, 5, 20);
        Steps.put(x, 2, 8, 31);
        Steps.put(x, 0, 99, 11);
        x.fail(0);
        x.replace(0);
        x.rot(1, 0);
        x.rot(2, 0);
        x.rot(1, 1);
        x.fail(3);
        x.warn(2);
        x.setHurry(4);
        x.read(0, 99);
        x.read(0, 0);
        x.write(1, 6, 21);
        x.write(1, 5, 22);
        x.write(2, 8, 32);
        for (int block = 1; block < 11; block++) {
            x.write(0, block, block);
            x.read(2, block);
        }
        x.pass(1);
        x.rot(4, 0);
        x.writeDisk(1);
        return x;
    }

    private static VolumeShepherd makeFull() {
        VolumeShepherd x = Steps.array(32, 32, 32, 32, 32, 32, 32, 32);
        x.addTenant(3, 20);
        x.addTenant(3, 0);
        x.addTenant(2, 7);
        x.addTenant(1, 1);
        for (int block = 0; block < 80; block++) {
            x.write(block % 2, block / 2, block);
            if (block % 40 == 39) {
                x.pass(8);
            }
        }
        for (int block = 0; block < 8; block++) {
            x.write(2, 99 - block, 9999);
        }
        x.pass(1);
        for (int block = 0; block < 40; block++) {
            x.read(block % 4, block);
        }
        x.writeDisk(7);
        return x;
    }

    private static VolumeShepherd makeAskedOut() {
        VolumeShepherd x = Steps.array(4, 4);
        x.addTenant(1, 0);
        x.addTenant(1, 20);
        for (int request = 0; request < 300; request++) {
            x.read(request % 2, 3);
            if (request % 40 == 39 || request == 299) {
                x.pass(2);
            }
        }
        return x;
    }

    private static VolumeShepherd makeAtHour(int hour) {
        VolumeShepherd x = Steps.array(4, 4);
        x.addTenant(2, 1);
        Steps.put(x, 0, 0, 1);
        for (int left = hour - 1; left > 0; left -= 50) {
            x.pass(Math.min(left, 50));
        }
        x.fail(1);
        x.replace(1);
        x.read(0, 0);
        x.write(0, 1, 1);
        return x;
    }

    private static VolumeShepherd makeAllFailed() {
        VolumeShepherd x = Steps.array(4, 4);
        x.addTenant(2, 1);
        Steps.put(x, 0, 0, 1);
        x.fail(0);
        x.fail(1);
        return x;
    }
}
