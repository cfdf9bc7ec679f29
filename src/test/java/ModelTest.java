import java.util.ArrayList;
import java.util.List;
import java.util.NoSuchElementException;
import java.util.function.Supplier;

/**
 * Long runs of mixed calls, each answer compared with that of a plain model, which is written from
 * the document for itself. The runs are the same each time.
 */
public final class ModelTest {
    private static final int RUNS = 4000;
    private static final int CALLS = 512;

    private static long seed;

    public static void main(String[] args) {
        for (int run = 0; run < RUNS; run++) {
            seed = 7919L * run + 17;
            if (!isRunAsDue(run)) {
                System.exit(1);
            }
        }
        System.out.println("all answers are as due");
    }

    private static int below(int bound) {
        seed = seed * 6364136223846793005L + 1442695040888963407L;
        return (int) ((seed >>> 33) % bound);
    }

    /** Mostly from the range, now and then just outside of it, or far outside. */
    private static int around(int low, int high) {
        switch (below(60)) {
            case 0: return low - 1;
            case 1: return high + 1;
            case 2: return below(2) == 0 ? Integer.MIN_VALUE : Integer.MAX_VALUE;
            default: return low + below(high - low + 1);
        }
    }

    private static boolean isRunAsDue(int run) {
        VolumeShepherd x = new VolumeShepherd();
        Model model = new Model();
        List<String> calls = new ArrayList<>();
        Habits habits = new Habits();
        for (int call = 0; call < CALLS; call++) {
            Pair pair = call < habits.disks + habits.tenants
                    ? setUp(x, model, habits, call) : habits.next(x, model);
            String want = answer(pair.due);
            String got = answer(pair.real);
            calls.add(pair.name + " -> " + got);
            if (!got.equals(want)) {
                calls.forEach(System.out::println);
                System.out.println("run " + run + ": the last call, due is " + want);
                return false;
            }
        }
        return true;
    }

    private static Pair setUp(VolumeShepherd x, Model m, Habits habits, int call) {
        if (call < habits.disks) {
            int slots = 1 + below(habits.slots);
            return new Pair("addDisk(" + slots + ")", () -> x.addDisk(slots),
                    () -> m.addDisk(slots));
        }
        int copies = 1 + below(3);
        int promise = below(21);
        return new Pair("addTenant(" + copies + ", " + promise + ")",
                () -> x.addTenant(copies, promise), () -> m.addTenant(copies, promise));
    }

    private static String answer(Supplier<Object> call) {
        try {
            return call.get().toString();
        } catch (IllegalStateException | IllegalArgumentException | IndexOutOfBoundsException
                | NoSuchElementException | ArithmeticException thrown) {
            return "throws " + thrown.getClass().getSimpleName();
        }
    }

    private static final class Pair {
        final String name;
        final Supplier<Object> real;
        final Supplier<Object> due;

        Pair(String name, Supplier<Object> real, Supplier<Object> due) {
            this.name = name;
            this.real = real;
            this.due = due;
        }
    }

    /** What a run does often: runs with few disks, with many requests, with many faults. */
    private static final class Habits {
        final int disks = below(9);
        final int tenants = below(5);
        final int slots = below(3) == 0 ? 32 : 1 + below(8);
        final int blocks = below(4) == 0 ? 99 : 1 + below(12);
        final int ticks = below(8) == 0 ? 50 : 1 + below(4);
        final int requestWeight = 5 + below(60);
        final int passWeight = 2 + below(20);
        final int faultWeight = 1 + below(30);
        final int rareWeight = below(4);
        final int askWeight = 5 + below(40);

        Pair next(VolumeShepherd x, Model m) {
            int pick = below(requestWeight + passWeight + faultWeight + rareWeight + askWeight);
            if (pick < requestWeight) {
                return request(x, m);
            }
            pick -= requestWeight;
            if (pick < passWeight) {
                int n = around(1, ticks);
                return new Pair("pass(" + n + ")", () -> x.pass(n), () -> m.pass(n));
            }
            pick -= passWeight;
            if (pick < faultWeight) {
                return fault(x, m);
            }
            return pick - faultWeight < rareWeight ? rare(x, m) : ask(x, m);
        }

        private int tenant(Model m) {
            return around(0, Math.max(0, m.tenants.size() - 1));
        }

        private int disk(Model m) {
            return around(0, Math.max(0, m.disks.size() - 1));
        }

        private int block() {
            return below(40) == 0 ? around(0, 99) : around(0, blocks);
        }

        private Pair request(VolumeShepherd x, Model m) {
            int t = tenant(m);
            int b = block();
            if (below(3) == 0) {
                return new Pair("read(" + t + ", " + b + ")", () -> x.read(t, b),
                        () -> m.read(t, b));
            }
            int v = around(0, 9999);
            return new Pair("write(" + t + ", " + b + ", " + v + ")", () -> x.write(t, b, v),
                    () -> m.write(t, b, v));
        }

        private Pair fault(VolumeShepherd x, Model m) {
            int d = disk(m);
            int s = around(0, below(3) == 0 ? 31 : slots - 1);
            String on = "(" + d + ")";
            switch (below(10)) {
                case 0: return new Pair("fail" + on, () -> x.fail(d), () -> m.fail(d));
                case 1: case 2: case 3:
                    return new Pair("replace" + on, () -> x.replace(d), () -> m.replace(d));
                case 4: return new Pair("warn" + on, () -> x.warn(d), () -> m.warn(d));
                case 5: return new Pair("scrub" + on, () -> x.scrub(d), () -> m.scrub(d));
                default: return new Pair("rot(" + d + ", " + s + ")", () -> x.rot(d, s),
                        () -> m.rot(d, s));
            }
        }

        private Pair rare(VolumeShepherd x, Model m) {
            int n = around(1, 32);
            int c = around(1, 3);
            int p = around(0, 20);
            switch (below(3)) {
                case 0: return new Pair("addDisk(" + n + ")", () -> x.addDisk(n),
                        () -> m.addDisk(n));
                case 1: return new Pair("addTenant(" + c + ", " + p + ")",
                        () -> x.addTenant(c, p), () -> m.addTenant(c, p));
                default: return new Pair("setHurry(" + p + ")", () -> x.setHurry(p),
                        () -> m.setHurry(p));
            }
        }

        private Pair ask(VolumeShepherd x, Model m) {
            switch (below(4)) {
                case 0: return askDisk(x, m);
                case 1: return askTenant(x, m);
                case 2: return askBlock(x, m);
                default: return askArray(x, m);
            }
        }

        private Pair askDisk(VolumeShepherd x, Model m) {
            int d = disk(m);
            int i = below(10) == 0 ? around(0, 200) : around(0, m.line.length());
            switch (below(6)) {
                case 0: return new Pair("diskState(" + d + ")", () -> x.diskState(d),
                        () -> m.disk(d).state);
                case 1: return new Pair("usedOn(" + d + ")", () -> x.usedOn(d),
                        () -> m.disk(d).used());
                case 2: return new Pair("rottenOn(" + d + ")", () -> x.rottenOn(d),
                        () -> m.rottenOn(d));
                case 3: return new Pair("writeDisk(" + d + ")", () -> x.writeDisk(d),
                        () -> m.writeDisk(d));
                default: return new Pair("lineAt(" + i + ")", () -> x.lineAt(i),
                        () -> m.lineAt(i));
            }
        }

        private Pair askTenant(VolumeShepherd x, Model m) {
            int t = tenant(m);
            int r = around(0, m.requests.size());
            switch (below(7)) {
                case 0: return new Pair("waitingOf(" + t + ")", () -> x.waitingOf(t),
                        () -> m.tenant(t).waiting.size());
                case 1: return new Pair("servedOf(" + t + ")", () -> x.servedOf(t),
                        () -> m.tenant(t).served);
                case 2: return new Pair("creditsOf(" + t + ")", () -> x.creditsOf(t),
                        () -> m.tenant(t).credits);
                case 3: return new Pair("breachesOf(" + t + ")", () -> x.breachesOf(t),
                        () -> m.tenant(t).breaches);
                case 4: return new Pair("blocksOf(" + t + ")", () -> x.blocksOf(t),
                        () -> m.blocksOf(t));
                case 5: return new Pair("stateOf(" + r + ")", () -> x.stateOf(r),
                        () -> m.request(r).state);
                default: return new Pair("answerTo(" + r + ")", () -> x.answerTo(r),
                        () -> m.answerTo(r));
            }
        }

        private Pair askBlock(VolumeShepherd x, Model m) {
            int t = tenant(m);
            int b = block();
            int i = around(0, 2);
            String of = "(" + t + ", " + b + ")";
            switch (below(6)) {
                case 0: return new Pair("copiesOf" + of, () -> x.copiesOf(t, b),
                        () -> m.block(t, b).copies.size());
                case 1: return new Pair("copiesByDisks" + of, () -> x.copiesByDisks(t, b),
                        () -> m.block(t, b).copies.size());
                case 2: return new Pair("valueOf" + of, () -> x.valueOf(t, b),
                        () -> m.valueOf(t, b));
                case 3: return new Pair("isLost" + of, () -> x.isLost(t, b),
                        () -> m.block(t, b).isLost());
                default: return new Pair("diskOfCopy(" + t + ", " + b + ", " + i + ")",
                        () -> x.diskOfCopy(t, b, i), () -> m.diskOfCopy(t, b, i));
            }
        }

        private Pair askArray(VolumeShepherd x, Model m) {
            int n = around(0, 3);
            switch (below(13)) {
                case 0: return new Pair("diskCount()", x::diskCount, () -> m.disks.size());
                case 1: return new Pair("tenantCount()", x::tenantCount, () -> m.tenants.size());
                case 2: return new Pair("clock()", x::clock, () -> m.clock);
                case 3: return new Pair("lostBlocks()", x::lostBlocks, () -> m.lostBlocks());
                case 4: return new Pair("degradedBlocks()", x::degradedBlocks,
                        () -> m.degradedBlocks());
                case 5: return new Pair("doesBear(" + n + ")", () -> x.doesBear(n),
                        () -> m.doesBear(n));
                case 6: return new Pair("doesBearByTrying(" + n + ")",
                        () -> x.doesBearByTrying(n), () -> m.doesBear(n));
                case 7: return new Pair("rebuilt()", x::rebuilt, () -> m.rebuilt);
                case 8: return new Pair("meanCopies()", x::meanCopies, () -> m.meanCopies());
                case 9: return new Pair("usedShare()", x::usedShare, () -> m.usedShare());
                case 10: return new Pair("isConsistent()", x::isConsistent, () -> true);
                default: return new Pair("openRebuilds()", x::openRebuilds,
                        () -> m.openRebuilds());
            }
        }
    }

    // ---- the model

    private static final class Copy {
        final Block block;
        final Disk disk;
        int value;
        boolean good = true;

        Copy(Block block, Disk disk, int value) {
            this.block = block;
            this.disk = disk;
            this.value = value;
        }
    }

    private static final class Disk {
        final Copy[] slots;
        char state = 's';

        Disk(int slots) {
            this.slots = new Copy[slots];
        }

        int used() {
            int count = 0;
            for (Copy copy : slots) {
                count += copy == null ? 0 : 1;
            }
            return count;
        }

        void put(Copy copy) {
            int slot = 0;
            while (slots[slot] != null) {
                slot++;
            }
            slots[slot] = copy;
        }

        void drop(Copy copy) {
            for (int slot = 0; slot < slots.length; slot++) {
                if (slots[slot] == copy) {
                    slots[slot] = null;
                }
            }
        }
    }

    private static final class Block {
        final int tenant;
        final int number;
        final int wanted;
        boolean written;
        List<Copy> copies = new ArrayList<>();

        Block(int tenant, int number, int wanted) {
            this.tenant = tenant;
            this.number = number;
            this.wanted = wanted;
        }

        Copy goodCopy() {
            for (Copy copy : copies) {
                if (copy.good) {
                    return copy;
                }
            }
            return null;
        }

        boolean isLost() {
            return written && goodCopy() == null;
        }

        boolean isOn(Disk disk) {
            for (Copy copy : copies) {
                if (copy.disk == disk) {
                    return true;
                }
            }
            return false;
        }
    }

    private static final class Request {
        final Block block;
        final boolean write;
        int value;
        char state = 'w';

        Request(Block block, boolean write, int value) {
            this.block = block;
            this.write = write;
            this.value = value;
        }

        int cost() {
            return write ? block.wanted : 1;
        }
    }

    private static final class Tenant {
        final Block[] blocks = new Block[100];
        final int promise;
        final List<Request> waiting = new ArrayList<>();
        int served;
        int credits;
        int breaches;

        Tenant(int number, int copies, int promise) {
            this.promise = promise;
            for (int block = 0; block < 100; block++) {
                blocks[block] = new Block(number, block, copies);
            }
        }
    }

    private static final class Model {
        final List<Disk> disks = new ArrayList<>();
        final List<Tenant> tenants = new ArrayList<>();
        final List<Request> requests = new ArrayList<>();
        final List<Block> firstWritten = new ArrayList<>();
        String line = "";
        int hurry = 10;
        int clock;
        int rebuilt;

        private static void illegal(boolean wrong) {
            if (wrong) {
                throw new IllegalArgumentException();
            }
        }

        private static void state(boolean wrong) {
            if (wrong) {
                throw new IllegalStateException();
            }
        }

        private static void missing(boolean wrong) {
            if (wrong) {
                throw new NoSuchElementException();
            }
        }

        private static <T> T at(List<T> list, int index) {
            if (index < 0 || index >= list.size()) {
                throw new IndexOutOfBoundsException();
            }
            return list.get(index);
        }

        Disk disk(int disk) {
            return at(disks, disk);
        }

        Tenant tenant(int tenant) {
            return at(tenants, tenant);
        }

        Request request(int request) {
            return at(requests, request);
        }

        Block block(int tenant, int block) {
            return at(List.of(tenant(tenant).blocks), block);
        }

        int addDisk(int slots) {
            illegal(slots < 1 || slots > 32);
            state(disks.size() == 8);
            disks.add(new Disk(slots));
            return disks.size() - 1;
        }

        int addTenant(int copies, int promise) {
            illegal(copies < 1 || copies > 3 || promise < 0 || promise > 20);
            state(tenants.size() == 4);
            tenants.add(new Tenant(tenants.size(), copies, promise));
            return tenants.size() - 1;
        }

        int setHurry(int units) {
            illegal(units < 0 || units > 20);
            int before = hurry;
            hurry = units;
            return before;
        }

        int read(int tenant, int block) {
            return add(tenant, new Request(block(tenant, block), false, 0));
        }

        int write(int tenant, int block, int value) {
            Block wanted = block(tenant, block);
            illegal(value < 0 || value > 9999);
            return add(tenant, new Request(wanted, true, value));
        }

        private int add(int tenant, Request request) {
            int waiting = 0;
            for (Tenant each : tenants) {
                waiting += each.waiting.size();
            }
            state(waiting == 40 || requests.size() == 300);
            requests.add(request);
            tenants.get(tenant).waiting.add(request);
            return requests.size() - 1;
        }

        int answerTo(int request) {
            Request asked = request(request);
            missing(asked.write || asked.state != 'd');
            return asked.value;
        }

        int pass(int ticks) {
            illegal(ticks < 1 || ticks > 50);
            state(clock + ticks > 9999);
            for (int tick = 0; tick < ticks; tick++) {
                tick();
            }
            return clock;
        }

        private void tick() {
            List<Integer> due = new ArrayList<>();
            List<Integer> before = new ArrayList<>();
            for (Tenant tenant : tenants) {
                due.add(Math.min(tenant.promise, tenant.waiting.size()));
                before.add(tenant.served);
            }
            int copies = rebuild(hurry);
            rebuilt += copies;
            serve(20 - 2 * copies);
            for (int i = 0; i < tenants.size(); i++) {
                Tenant tenant = tenants.get(i);
                int lacking = due.get(i) - (tenant.served - before.get(i));
                if (lacking > 0) {
                    tenant.credits += lacking;
                    tenant.breaches += 1;
                }
            }
            clock++;
        }

        private void serve(int units) {
            boolean served = true;
            while (served) {
                served = false;
                for (Tenant tenant : tenants) {
                    if (!tenant.waiting.isEmpty() && tenant.waiting.get(0).cost() <= units) {
                        Request request = tenant.waiting.remove(0);
                        units -= request.cost();
                        tenant.served++;
                        serve(request);
                        served = true;
                    }
                }
            }
        }

        private void serve(Request request) {
            Block block = request.block;
            Copy good = block.goodCopy();
            boolean done;
            if (!request.write) {
                done = good != null;
                request.value = done ? good.value : 0;
            } else if (good != null) {
                for (Copy copy : block.copies) {
                    copy.value = request.value;
                    copy.good = true;
                }
                done = true;
            } else {
                done = putAnew(block, request.value);
            }
            request.state = done ? 'd' : 'x';
        }

        private boolean putAnew(Block block, int value) {
            List<Copy> old = block.copies;
            List<Copy[]> slotsBefore = new ArrayList<>();
            for (Disk disk : disks) {
                slotsBefore.add(disk.slots.clone());
            }
            for (Copy copy : old) {
                copy.disk.drop(copy);
            }
            block.copies = new ArrayList<>();
            while (block.copies.size() < block.wanted && place(block) != null) {
                put(block, value);
            }
            if (block.copies.size() < block.wanted) {
                block.copies = old;
                for (int i = 0; i < disks.size(); i++) {
                    Copy[] slots = slotsBefore.get(i);
                    System.arraycopy(slots, 0, disks.get(i).slots, 0, slots.length);
                }
                return false;
            }
            if (!block.written) {
                block.written = true;
                firstWritten.add(block);
            }
            return true;
        }

        private void put(Block block, int value) {
            Disk disk = place(block);
            Copy copy = new Copy(block, disk, value);
            disk.put(copy);
            block.copies.add(copy);
        }

        private Disk place(Block block) {
            for (int free = 32; free > 0; free--) {
                for (Disk disk : disks) {
                    if (disk.state == 's' && disk.slots.length - disk.used() == free
                            && !block.isOn(disk)) {
                        return disk;
                    }
                }
            }
            return null;
        }

        private int rebuild(int units) {
            int left = units;
            int copies = 0;
            for (Block block : firstWritten) {
                while (!block.isLost() && block.copies.size() < block.wanted && left >= 2
                        && place(block) != null) {
                    put(block, block.goodCopy().value);
                    left -= 2;
                    copies++;
                }
            }
            for (Block block : firstWritten) {
                for (Copy copy : new ArrayList<>(block.copies)) {
                    if (!block.isLost() && copy.disk.state == 'w' && left >= 2
                            && place(block) != null) {
                        put(block, block.goodCopy().value);
                        copy.disk.drop(copy);
                        block.copies.remove(copy);
                        left -= 2;
                        copies++;
                    }
                }
            }
            return copies;
        }

        /** Rebuilds, counts, and puts all back. */
        int openRebuilds() {
            List<Copy[]> slotsBefore = new ArrayList<>();
            for (Disk disk : disks) {
                slotsBefore.add(disk.slots.clone());
            }
            List<List<Copy>> copiesBefore = new ArrayList<>();
            for (Block block : firstWritten) {
                copiesBefore.add(new ArrayList<>(block.copies));
            }
            int copies = rebuild(1000000);
            for (int i = 0; i < disks.size(); i++) {
                Copy[] slots = slotsBefore.get(i);
                System.arraycopy(slots, 0, disks.get(i).slots, 0, slots.length);
            }
            for (int i = 0; i < firstWritten.size(); i++) {
                firstWritten.get(i).copies = copiesBefore.get(i);
            }
            return copies;
        }

        int blocksOf(int tenant) {
            int count = 0;
            for (Block block : tenant(tenant).blocks) {
                count += block.written ? 1 : 0;
            }
            return count;
        }

        int diskOfCopy(int tenant, int block, int index) {
            List<Copy> copies = block(tenant, block).copies;
            missing(index < 0 || index >= copies.size());
            return disks.indexOf(copies.get(index).disk);
        }

        int valueOf(int tenant, int block) {
            Copy good = block(tenant, block).goodCopy();
            missing(good == null);
            return good.value;
        }

        int lostBlocks() {
            int count = 0;
            for (Block block : firstWritten) {
                count += block.isLost() ? 1 : 0;
            }
            return count;
        }

        int degradedBlocks() {
            int count = 0;
            for (Block block : firstWritten) {
                count += block.copies.size() < block.wanted ? 1 : 0;
            }
            return count;
        }

        boolean doesBear(int losses) {
            illegal(losses < 0 || losses > 3);
            List<Disk> alive = new ArrayList<>();
            for (Disk disk : disks) {
                if (disk.state != 'f') {
                    alive.add(disk);
                }
            }
            return bears(alive, 0, Math.min(losses, alive.size()), new ArrayList<>());
        }

        private boolean bears(List<Disk> alive, int from, int more, List<Disk> failing) {
            if (more == 0) {
                return !wouldLose(failing);
            }
            for (int i = from; i < alive.size(); i++) {
                failing.add(alive.get(i));
                boolean bears = bears(alive, i + 1, more - 1, failing);
                failing.remove(failing.size() - 1);
                if (!bears) {
                    return false;
                }
            }
            return true;
        }

        private boolean wouldLose(List<Disk> failing) {
            for (Block block : firstWritten) {
                boolean stays = block.isLost();
                for (Copy copy : block.copies) {
                    stays |= copy.good && !failing.contains(copy.disk);
                }
                if (!stays) {
                    return true;
                }
            }
            return false;
        }

        int fail(int disk) {
            Disk failing = disk(disk);
            state(failing.state == 'f');
            int gone = 0;
            for (int slot = 0; slot < failing.slots.length; slot++) {
                Copy copy = failing.slots[slot];
                if (copy != null) {
                    copy.block.copies.remove(copy);
                    failing.slots[slot] = null;
                    gone++;
                }
            }
            failing.state = 'f';
            return gone;
        }

        int replace(int disk) {
            state(disk(disk).state != 'f');
            disks.get(disk).state = 's';
            int sound = 0;
            for (Disk each : disks) {
                sound += each.state == 's' ? 1 : 0;
            }
            return sound;
        }

        int warn(int disk) {
            state(disk(disk).state != 's');
            disks.get(disk).state = 'w';
            return disks.get(disk).used();
        }

        boolean rot(int disk, int slot) {
            Copy[] slots = disk(disk).slots;
            if (slot < 0 || slot >= slots.length) {
                throw new IndexOutOfBoundsException();
            }
            missing(slots[slot] == null);
            boolean before = !slots[slot].good;
            slots[slot].good = false;
            return before;
        }

        int scrub(int disk) {
            state(disk(disk).state == 'f');
            int healed = 0;
            for (Copy copy : disks.get(disk).slots) {
                if (copy != null && !copy.good && copy.block.goodCopy() != null) {
                    copy.good = true;
                    healed++;
                }
            }
            return healed;
        }

        int rottenOn(int disk) {
            int count = 0;
            for (Copy copy : disk(disk).slots) {
                count += copy != null && !copy.good ? 1 : 0;
            }
            return count;
        }

        double meanCopies() {
            if (firstWritten.isEmpty()) {
                throw new ArithmeticException();
            }
            int copies = 0;
            for (Block block : firstWritten) {
                copies += block.copies.size();
            }
            return (double) copies / (double) firstWritten.size();
        }

        float usedShare() {
            int used = 0;
            int all = 0;
            for (Disk disk : disks) {
                used += disk.state == 'f' ? 0 : disk.used();
                all += disk.state == 'f' ? 0 : disk.slots.length;
            }
            if (all == 0) {
                throw new ArithmeticException();
            }
            return (float) used / (float) all;
        }

        int writeDisk(int disk) {
            StringBuilder text = new StringBuilder().append(disk(disk).state);
            for (Copy copy : disks.get(disk).slots) {
                if (copy != null) {
                    text.append(' ').append(copy.block.tenant).append('.');
                    text.append(copy.block.number).append(copy.good ? "" : "!");
                }
            }
            line = text.toString();
            return line.length();
        }

        char lineAt(int index) {
            if (index < 0 || index >= line.length()) {
                throw new IndexOutOfBoundsException();
            }
            return line.charAt(index);
        }
    }
}
