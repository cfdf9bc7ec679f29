import java.util.Arrays;
import java.util.NoSuchElementException;

/** A storage array. */
public final class VolumeShepherd {
    private static final int MAX_DISKS = 8;
    private static final int MAX_SLOTS = 32;
    private static final int MAX_TENANTS = 4;
    private static final int MAX_COPIES = 3;
    private static final int MAX_PROMISE = 20;
    private static final int MAX_VALUE = 9999;
    private static final int MAX_REQUESTS = 300;
    private static final int MAX_WAITING = 40;
    private static final int MAX_LOSSES = 3;
    private static final int MAX_PASS = 50;
    private static final int MAX_CLOCK = 9999;
    private static final int BLOCKS_PER_TENANT = 100;
    private static final int ALL_BLOCKS = MAX_TENANTS * BLOCKS_PER_TENANT;
    private static final int ALL_SLOTS = MAX_DISKS * MAX_SLOTS;
    private static final int UNITS_PER_TICK = 20;
    private static final int FIRST_HURRY = 10;
    private static final int UNITS_PER_REBUILT_COPY = 2;
    private static final int READ_UNITS = 1;
    /** Far above what any rebuilding can make or move: each of 1,200 copies twice. */
    private static final int ENOUGH_COPIES = 1000000;
    private static final int NONE = -1;
    private static final char SOUND = 's';
    private static final char WARNED = 'w';
    private static final char FAILED = 'f';
    private static final char WAITING = 'w';
    private static final char DONE = 'd';
    private static final char REFUSED = 'x';

    private final Store store;
    /** Where openRebuilds tries the rebuilding, so that the store itself stays as it is. */
    private final Store trial;
    private final Desk desk;
    private final StringBuilder line;
    private int hurry;
    private int now;
    private int rebuiltCopies;

    public VolumeShepherd() {
        store = new Store();
        trial = new Store();
        desk = new Desk();
        line = new StringBuilder();
        hurry = FIRST_HURRY;
    }

    // ---- disks and tenants

    public int addDisk(int slots) throws IllegalArgumentException, IllegalStateException {
        if (slots < 1 || slots > MAX_SLOTS) {
            throw new IllegalArgumentException("a disk has 1 to 32 slots");
        }
        if (store.disks >= MAX_DISKS) {
            throw new IllegalStateException("there are 8 disks");
        }
        return store.installDisk(slots);
    }

    public int diskCount() {
        return store.disks;
    }

    public char diskState(int disk) throws IndexOutOfBoundsException {
        checkDisk(disk);
        return store.state[disk];
    }

    public int usedOn(int disk) throws IndexOutOfBoundsException {
        checkDisk(disk);
        return store.used[disk];
    }

    public int addTenant(int copies, int promise)
            throws IllegalArgumentException, IllegalStateException {
        if (copies < 1 || copies > MAX_COPIES) {
            throw new IllegalArgumentException("a block has 1 to 3 copies");
        }
        if (promise < 0 || promise > MAX_PROMISE) {
            throw new IllegalArgumentException("a promised speed is 0 to 20");
        }
        if (desk.tenants >= MAX_TENANTS) {
            throw new IllegalStateException("there are 4 tenants");
        }
        int tenant = desk.admitTenant(promise);
        store.wanted[tenant] = copies;
        return tenant;
    }

    public int tenantCount() {
        return desk.tenants;
    }

    public int setHurry(int units) throws IllegalArgumentException {
        if (units < 0 || units > UNITS_PER_TICK) {
            throw new IllegalArgumentException("the hurry is 0 to 20 units");
        }
        int before = hurry;
        hurry = units;
        return before;
    }

    // ---- requests and ticks

    public int read(int tenant, int block)
            throws IndexOutOfBoundsException, IllegalStateException {
        checkBlock(tenant, block);
        checkRoomForRequest();
        return desk.enqueue(tenant, blockId(tenant, block), false, 0);
    }

    public int write(int tenant, int block, int value)
            throws IndexOutOfBoundsException, IllegalArgumentException, IllegalStateException {
        checkBlock(tenant, block);
        if (value < 0 || value > MAX_VALUE) {
            throw new IllegalArgumentException("a value is 0 to 9999");
        }
        checkRoomForRequest();
        return desk.enqueue(tenant, blockId(tenant, block), true, value);
    }

    public char stateOf(int request) throws IndexOutOfBoundsException {
        checkRequest(request);
        return desk.state[request];
    }

    public int answerTo(int request) throws IndexOutOfBoundsException, NoSuchElementException {
        checkRequest(request);
        if (desk.isWrite[request] || desk.state[request] != DONE) {
            throw new NoSuchElementException("the request has no answer");
        }
        return desk.value[request];
    }

    public int waitingOf(int tenant) throws IndexOutOfBoundsException {
        checkTenant(tenant);
        return desk.countWaiting(tenant);
    }

    public int servedOf(int tenant) throws IndexOutOfBoundsException {
        checkTenant(tenant);
        return desk.served[tenant];
    }

    public int creditsOf(int tenant) throws IndexOutOfBoundsException {
        checkTenant(tenant);
        return desk.credits[tenant];
    }

    public int breachesOf(int tenant) throws IndexOutOfBoundsException {
        checkTenant(tenant);
        return desk.breaches[tenant];
    }

    public int pass(int ticks) throws IllegalArgumentException, IllegalStateException {
        if (ticks < 1 || ticks > MAX_PASS) {
            throw new IllegalArgumentException("1 to 50 ticks pass");
        }
        if (ticks > MAX_CLOCK - now) {
            throw new IllegalStateException("the clock would be greater than 9999");
        }
        for (int i = 0; i < ticks; i++) {
            desk.beginTick();
            int copies = store.rebuild(hurry / UNITS_PER_REBUILT_COPY);
            rebuiltCopies += copies;
            serveRounds(UNITS_PER_TICK - copies * UNITS_PER_REBUILT_COPY);
            desk.giveCredits();
            now++;
        }
        return now;
    }

    public int clock() {
        return now;
    }

    // ---- blocks

    public int blocksOf(int tenant) throws IndexOutOfBoundsException {
        checkTenant(tenant);
        return store.countWritten(tenant);
    }

    public int copiesOf(int tenant, int block) throws IndexOutOfBoundsException {
        checkBlock(tenant, block);
        return store.copies[blockId(tenant, block)];
    }

    public int copiesByDisks(int tenant, int block) throws IndexOutOfBoundsException {
        checkBlock(tenant, block);
        return store.countInSlots(blockId(tenant, block));
    }

    public int diskOfCopy(int tenant, int block, int index)
            throws IndexOutOfBoundsException, NoSuchElementException {
        checkBlock(tenant, block);
        int id = blockId(tenant, block);
        if (index < 0 || index >= store.copies[id]) {
            throw new NoSuchElementException("the block has no such copy");
        }
        return store.addressOf(id, index) / MAX_SLOTS;
    }

    public int valueOf(int tenant, int block)
            throws IndexOutOfBoundsException, NoSuchElementException {
        checkBlock(tenant, block);
        int id = blockId(tenant, block);
        if (store.disksWithGoodCopy(id) == 0) {
            throw new NoSuchElementException("the block has no good copy");
        }
        return store.value[id];
    }

    public boolean isLost(int tenant, int block) throws IndexOutOfBoundsException {
        checkBlock(tenant, block);
        return store.hasLost(blockId(tenant, block));
    }

    public int lostBlocks() {
        return store.countLost();
    }

    public int degradedBlocks() {
        return store.countDegraded();
    }

    public boolean doesBear(int losses) throws IllegalArgumentException {
        checkLosses(losses);
        return store.bearsByCounting(losses);
    }

    public boolean doesBearByTrying(int losses) throws IllegalArgumentException {
        checkLosses(losses);
        return store.bearsByTrying(losses);
    }

    // ---- faults and rebuilding

    public int fail(int disk) throws IndexOutOfBoundsException, IllegalStateException {
        checkDisk(disk);
        checkNotFailed(disk);
        return store.breakDisk(disk);
    }

    public int replace(int disk) throws IndexOutOfBoundsException, IllegalStateException {
        checkDisk(disk);
        if (store.state[disk] != FAILED) {
            throw new IllegalStateException("the disk has not failed");
        }
        store.state[disk] = SOUND;
        return Integer.bitCount(store.disksInState(SOUND));
    }

    public int warn(int disk) throws IndexOutOfBoundsException, IllegalStateException {
        checkDisk(disk);
        if (store.state[disk] != SOUND) {
            throw new IllegalStateException("the disk is not sound");
        }
        store.state[disk] = WARNED;
        return store.used[disk];
    }

    public boolean rot(int disk, int slot)
            throws IndexOutOfBoundsException, NoSuchElementException {
        checkDisk(disk);
        if (slot < 0 || slot >= store.size[disk]) {
            throw new IndexOutOfBoundsException("there is no such slot");
        }
        int address = disk * MAX_SLOTS + slot;
        if (store.holder[address] == NONE) {
            throw new NoSuchElementException("there is no copy in the slot");
        }
        boolean before = store.rotten[address];
        store.rotten[address] = true;
        return before;
    }

    public int scrub(int disk) throws IndexOutOfBoundsException, IllegalStateException {
        checkDisk(disk);
        checkNotFailed(disk);
        return store.healDisk(disk);
    }

    public int rottenOn(int disk) throws IndexOutOfBoundsException {
        checkDisk(disk);
        return store.countRotten(disk);
    }

    public int rebuilt() {
        return rebuiltCopies;
    }

    public int openRebuilds() {
        trial.copyFrom(store);
        return trial.rebuild(ENOUGH_COPIES);
    }

    // ---- figures and line

    public double meanCopies() throws ArithmeticException {
        if (store.written == 0) {
            throw new ArithmeticException("no block has been written");
        }
        return (double) store.countCopies() / (double) store.written;
    }

    public float usedShare() throws ArithmeticException {
        int slots = store.countSlots();
        if (slots == 0) {
            throw new ArithmeticException("there is no disk that has not failed");
        }
        return (float) store.countCopies() / (float) slots;
    }

    public boolean isConsistent() {
        return store.agreesWithDisks();
    }

    public int writeDisk(int disk) throws IndexOutOfBoundsException {
        checkDisk(disk);
        line.setLength(0);
        line.append(store.state[disk]);
        int first = disk * MAX_SLOTS;
        for (int address = first; address < first + store.size[disk]; address++) {
            if (store.holder[address] != NONE) {
                appendCopy(store.holder[address], store.rotten[address]);
            }
        }
        return line.length();
    }

    public char lineAt(int index) throws IndexOutOfBoundsException {
        if (index < 0 || index >= line.length()) {
            throw new IndexOutOfBoundsException("there is no such character");
        }
        return line.charAt(index);
    }

    // ---- helpers

    private void checkDisk(int disk) {
        if (disk < 0 || disk >= store.disks) {
            throw new IndexOutOfBoundsException("there is no such disk");
        }
    }

    private void checkNotFailed(int disk) {
        if (store.state[disk] == FAILED) {
            throw new IllegalStateException("the disk has failed");
        }
    }

    private void checkTenant(int tenant) {
        if (tenant < 0 || tenant >= desk.tenants) {
            throw new IndexOutOfBoundsException("there is no such tenant");
        }
    }

    private void checkBlock(int tenant, int block) {
        checkTenant(tenant);
        if (block < 0 || block >= BLOCKS_PER_TENANT) {
            throw new IndexOutOfBoundsException("there is no such block");
        }
    }

    private void checkRequest(int request) {
        if (request < 0 || request >= desk.requests) {
            throw new IndexOutOfBoundsException("there is no such request");
        }
    }

    private void checkRoomForRequest() {
        if (desk.waiting >= MAX_WAITING) {
            throw new IllegalStateException("40 requests are waiting");
        }
        if (desk.requests >= MAX_REQUESTS) {
            throw new IllegalStateException("there have been 300 requests");
        }
    }

    private static void checkLosses(int losses) {
        if (losses < 0 || losses > MAX_LOSSES) {
            throw new IllegalArgumentException("0 to 3 disks are lost");
        }
    }

    /** Blocks of all tenants are numbered through, so that one row holds them. */
    private static int blockId(int tenant, int block) {
        return tenant * BLOCKS_PER_TENANT + block;
    }

    private void appendCopy(int block, boolean isRotten) {
        line.append(' ');
        line.append(block / BLOCKS_PER_TENANT);
        line.append('.');
        line.append(block % BLOCKS_PER_TENANT);
        if (isRotten) {
            line.append('!');
        }
    }

    /** Each round but the last one takes a unit at least, so that the units bound the rounds. */
    private void serveRounds(int units) {
        int left = units;
        for (int round = 0; round <= UNITS_PER_TICK; round++) {
            int before = left;
            for (int tenant = 0; tenant < desk.tenants; tenant++) {
                left -= serveOldest(tenant, left);
            }
            if (left == before) {
                return;
            }
        }
    }

    /** Returns the units that were taken, 0 if no request was served. */
    private int serveOldest(int tenant, int units) {
        if (desk.countWaiting(tenant) == 0) {
            return 0;
        }
        int request = desk.oldestWaiting(tenant);
        int cost = desk.isWrite[request] ? store.wanted[tenant] : READ_UNITS;
        if (cost > units) {
            return 0;
        }
        boolean isDone = desk.isWrite[request]
                ? store.putValue(desk.block[request], desk.value[request])
                : serveRead(request);
        desk.markServed(tenant, request, isDone);
        return cost;
    }

    private boolean serveRead(int request) {
        int block = desk.block[request];
        if (store.disksWithGoodCopy(block) == 0) {
            return false;
        }
        desk.value[request] = store.value[block];
        return true;
    }

    /** The tenants' requests, in the order in which they came, and what the tenants are owed. */
    private static final class Desk {
        private int tenants;
        private final int[] promise = new int[MAX_TENANTS];
        private final int[] asked = new int[MAX_TENANTS];
        private final int[] served = new int[MAX_TENANTS];
        private final int[] due = new int[MAX_TENANTS];
        private final int[] credits = new int[MAX_TENANTS];
        private final int[] breaches = new int[MAX_TENANTS];
        /** The numbers of each tenant's requests, MAX_REQUESTS places for each tenant. */
        private final int[] queue = new int[MAX_TENANTS * MAX_REQUESTS];
        private int requests;
        private int waiting;
        private final int[] block = new int[MAX_REQUESTS];
        private final boolean[] isWrite = new boolean[MAX_REQUESTS];
        /** The value to write, or the answer to a request to read that is done. */
        private final int[] value = new int[MAX_REQUESTS];
        private final char[] state = new char[MAX_REQUESTS];

        private int admitTenant(int speed) {
            promise[tenants] = speed;
            return tenants++;
        }

        private int enqueue(int tenant, int blockId, boolean isToWrite, int newValue) {
            int request = requests;
            block[request] = blockId;
            isWrite[request] = isToWrite;
            value[request] = newValue;
            state[request] = WAITING;
            queue[tenant * MAX_REQUESTS + asked[tenant]] = request;
            asked[tenant]++;
            waiting++;
            requests++;
            return request;
        }

        private int countWaiting(int tenant) {
            return asked[tenant] - served[tenant];
        }

        /** Only for a tenant that has a waiting request. */
        private int oldestWaiting(int tenant) {
            return queue[tenant * MAX_REQUESTS + served[tenant]];
        }

        private void markServed(int tenant, int request, boolean isDone) {
            state[request] = isDone ? DONE : REFUSED;
            served[tenant]++;
            waiting--;
        }

        /** Keeps what each tenant's count of served requests is to reach in this tick. */
        private void beginTick() {
            for (int tenant = 0; tenant < tenants; tenant++) {
                due[tenant] = served[tenant] + Math.min(promise[tenant], countWaiting(tenant));
            }
        }

        private void giveCredits() {
            for (int tenant = 0; tenant < tenants; tenant++) {
                int lacking = due[tenant] - served[tenant];
                if (lacking > 0) {
                    credits[tenant] += lacking;
                    breaches[tenant]++;
                }
            }
        }
    }

    /**
     * The disks and the blocks with their copies. A slot's address is its disk times MAX_SLOTS
     * plus its number. A set of disks is an int with a bit for each disk.
     */
    private static final class Store {
        private int disks;
        private final int[] size = new int[MAX_DISKS];
        private final int[] used = new int[MAX_DISKS];
        private final char[] state = new char[MAX_DISKS];
        /** The block whose copy is in a slot, or NONE. */
        private final int[] holder = new int[ALL_SLOTS];
        private final boolean[] rotten = new boolean[ALL_SLOTS];
        private final int[] wanted = new int[MAX_TENANTS];
        /** The value of all copies of a block, or NONE if it is unwritten. */
        private final int[] value = new int[ALL_BLOCKS];
        private final int[] copies = new int[ALL_BLOCKS];
        /** The addresses of each block's copies, from the oldest one on. */
        private final int[] addresses = new int[ALL_BLOCKS * MAX_COPIES];
        private int written;
        /** The blocks that have been written, in the order in which they first were. */
        private final int[] order = new int[ALL_BLOCKS];
        private final int[] goodDisks = new int[ALL_BLOCKS];

        private Store() {
            Arrays.fill(holder, NONE);
            Arrays.fill(value, NONE);
        }

        private void copyFrom(Store other) {
            disks = other.disks;
            written = other.written;
            for (int disk = 0; disk < MAX_DISKS; disk++) {
                size[disk] = other.size[disk];
                used[disk] = other.used[disk];
                state[disk] = other.state[disk];
            }
            for (int address = 0; address < ALL_SLOTS; address++) {
                rotten[address] = other.rotten[address];
            }
            System.arraycopy(other.holder, 0, holder, 0, ALL_SLOTS);
            System.arraycopy(other.wanted, 0, wanted, 0, MAX_TENANTS);
            System.arraycopy(other.value, 0, value, 0, ALL_BLOCKS);
            System.arraycopy(other.copies, 0, copies, 0, ALL_BLOCKS);
            System.arraycopy(other.addresses, 0, addresses, 0, ALL_BLOCKS * MAX_COPIES);
            System.arraycopy(other.order, 0, order, 0, ALL_BLOCKS);
        }

        private int installDisk(int slots) {
            size[disks] = slots;
            state[disks] = SOUND;
            return disks++;
        }

        private int disksInState(char wantedState) {
            int set = 0;
            for (int disk = 0; disk < disks; disk++) {
                if (state[disk] == wantedState) {
                    set |= 1 << disk;
                }
            }
            return set;
        }

        // -- blocks

        private int wantedOf(int block) {
            return wanted[block / BLOCKS_PER_TENANT];
        }

        private int addressOf(int block, int index) {
            return addresses[block * MAX_COPIES + index];
        }

        private int disksWithCopy(int block) {
            int set = 0;
            for (int index = 0; index < copies[block]; index++) {
                set |= 1 << addressOf(block, index) / MAX_SLOTS;
            }
            return set;
        }

        private int disksWithGoodCopy(int block) {
            int set = 0;
            for (int index = 0; index < copies[block]; index++) {
                int address = addressOf(block, index);
                if (!rotten[address]) {
                    set |= 1 << address / MAX_SLOTS;
                }
            }
            return set;
        }

        private boolean hasLost(int block) {
            return value[block] != NONE && disksWithGoodCopy(block) == 0;
        }

        private int countWritten(int tenant) {
            int count = 0;
            for (int i = 0; i < written; i++) {
                if (order[i] / BLOCKS_PER_TENANT == tenant) {
                    count++;
                }
            }
            return count;
        }

        private int countLost() {
            int count = 0;
            for (int i = 0; i < written; i++) {
                if (hasLost(order[i])) {
                    count++;
                }
            }
            return count;
        }

        private int countDegraded() {
            int count = 0;
            for (int i = 0; i < written; i++) {
                if (copies[order[i]] < wantedOf(order[i])) {
                    count++;
                }
            }
            return count;
        }

        private int countInSlots(int block) {
            int count = 0;
            for (int address = 0; address < ALL_SLOTS; address++) {
                if (holder[address] == block) {
                    count++;
                }
            }
            return count;
        }

        // -- places and copies

        private int freeOn(int disk) {
            return size[disk] - used[disk];
        }

        /** Returns the address of the place for a new copy beside the taken disks, or NONE. */
        private int findPlace(int taken) {
            int best = NONE;
            int mostFree = 0;
            for (int disk = 0; disk < disks; disk++) {
                boolean isOpen = state[disk] == SOUND && (taken >> disk & 1) == 0;
                if (isOpen && freeOn(disk) > mostFree) {
                    best = disk;
                    mostFree = freeOn(disk);
                }
            }
            return best == NONE ? NONE : firstFreeOn(best);
        }

        private int firstFreeOn(int disk) {
            int first = disk * MAX_SLOTS;
            for (int address = first; address < first + size[disk]; address++) {
                if (holder[address] == NONE) {
                    return address;
                }
            }
            return NONE;
        }

        private void addCopy(int block, int address) {
            holder[address] = block;
            rotten[address] = false;
            used[address / MAX_SLOTS]++;
            addresses[block * MAX_COPIES + copies[block]] = address;
            copies[block]++;
        }

        private void removeCopy(int block, int index) {
            int address = addressOf(block, index);
            holder[address] = NONE;
            rotten[address] = false;
            used[address / MAX_SLOTS]--;
            copies[block]--;
            int first = block * MAX_COPIES;
            for (int i = index; i < copies[block]; i++) {
                addresses[first + i] = addresses[first + i + 1];
            }
        }

        /** Returns whether the value could be put; if not, the block stays as it was. */
        private boolean putValue(int block, int newValue) {
            if (disksWithGoodCopy(block) != 0) {
                renewCopies(block);
            } else if (countPlacesAnew(block) >= wantedOf(block)) {
                removeCopies(block);
                completeBlock(block, wantedOf(block));
            } else {
                return false;
            }
            if (value[block] == NONE) {
                order[written] = block;
                written++;
            }
            value[block] = newValue;
            return true;
        }

        private void renewCopies(int block) {
            for (int index = 0; index < copies[block]; index++) {
                rotten[addressOf(block, index)] = false;
            }
        }

        /** Counts the places that the block would have without the copies that are left of it. */
        private int countPlacesAnew(int block) {
            int own = disksWithCopy(block);
            int count = 0;
            for (int disk = 0; disk < disks; disk++) {
                boolean hasRoom = freeOn(disk) > 0 || (own >> disk & 1) != 0;
                if (state[disk] == SOUND && hasRoom) {
                    count++;
                }
            }
            return count;
        }

        private void removeCopies(int block) {
            for (int index = copies[block] - 1; index >= 0; index--) {
                removeCopy(block, index);
            }
        }

        // -- rebuilding

        /** Returns how many copies were made or moved, at most as many as the limit. */
        private int rebuild(int limit) {
            int count = 0;
            for (int i = 0; i < written && count < limit; i++) {
                if (!hasLost(order[i])) {
                    count += completeBlock(order[i], limit - count);
                }
            }
            for (int i = 0; i < written && count < limit; i++) {
                if (!hasLost(order[i])) {
                    count += emptyWarnedDisks(order[i], limit - count);
                }
            }
            return count;
        }

        /** Adds the copies that are lacking, as far as the limit and the places go. */
        private int completeBlock(int block, int limit) {
            int lacking = Math.min(wantedOf(block) - copies[block], limit);
            for (int count = 0; count < lacking; count++) {
                int place = findPlace(disksWithCopy(block));
                if (place == NONE) {
                    return count;
                }
                addCopy(block, place);
            }
            return Math.max(lacking, 0);
        }

        /** Moves the block's copies away from the disks that are warned of. */
        private int emptyWarnedDisks(int block, int limit) {
            int count = 0;
            int index = 0;
            int present = copies[block];
            for (int seen = 0; seen < present && count < limit; seen++) {
                int disk = addressOf(block, index) / MAX_SLOTS;
                int place = state[disk] == WARNED ? findPlace(disksWithCopy(block)) : NONE;
                if (place == NONE) {
                    index++;
                } else {
                    // The next copy moves up to this index, as the moved one becomes the newest.
                    removeCopy(block, index);
                    addCopy(block, place);
                    count++;
                }
            }
            return count;
        }

        // -- faults

        private int breakDisk(int disk) {
            int gone = used[disk];
            int first = disk * MAX_SLOTS;
            for (int address = first; address < first + size[disk]; address++) {
                if (holder[address] != NONE) {
                    removeCopyAt(address);
                }
            }
            state[disk] = FAILED;
            return gone;
        }

        private void removeCopyAt(int address) {
            int block = holder[address];
            for (int index = 0; index < copies[block]; index++) {
                if (addressOf(block, index) == address) {
                    removeCopy(block, index);
                    return;
                }
            }
        }

        private int healDisk(int disk) {
            int healed = 0;
            int first = disk * MAX_SLOTS;
            for (int address = first; address < first + size[disk]; address++) {
                int block = holder[address];
                if (block != NONE && rotten[address] && disksWithGoodCopy(block) != 0) {
                    rotten[address] = false;
                    healed++;
                }
            }
            return healed;
        }

        private int countRotten(int disk) {
            int count = 0;
            int first = disk * MAX_SLOTS;
            for (int address = first; address < first + size[disk]; address++) {
                if (rotten[address]) {
                    count++;
                }
            }
            return count;
        }

        // -- what would be lost

        /** A block bears the losses if it has more good copies than disks fail. */
        private boolean bearsByCounting(int losses) {
            for (int i = 0; i < written; i++) {
                int good = Integer.bitCount(disksWithGoodCopy(order[i]));
                if (good != 0 && good <= losses) {
                    return false;
                }
            }
            return true;
        }

        private boolean bearsByTrying(int losses) {
            for (int i = 0; i < written; i++) {
                goodDisks[i] = disksWithGoodCopy(order[i]);
            }
            int failed = disksInState(FAILED);
            int failing = Math.min(losses, disks - Integer.bitCount(failed));
            for (int choice = 0; choice < 1 << disks; choice++) {
                boolean isDue = (choice & failed) == 0 && Integer.bitCount(choice) == failing;
                if (isDue && doesLose(choice)) {
                    return false;
                }
            }
            return true;
        }

        /** Only after goodDisks has been filled. */
        private boolean doesLose(int choice) {
            for (int i = 0; i < written; i++) {
                if (goodDisks[i] != 0 && (goodDisks[i] & ~choice) == 0) {
                    return true;
                }
            }
            return false;
        }

        // -- figures

        private int countCopies() {
            int count = 0;
            for (int i = 0; i < written; i++) {
                count += copies[order[i]];
            }
            return count;
        }

        /** Counts the slots of the disks that have not failed. */
        private int countSlots() {
            int count = 0;
            for (int disk = 0; disk < disks; disk++) {
                if (state[disk] != FAILED) {
                    count += size[disk];
                }
            }
            return count;
        }

        private boolean agreesWithDisks() {
            int failed = disksInState(FAILED);
            for (int i = 0; i < written; i++) {
                int block = order[i];
                int set = disksWithCopy(block);
                boolean isSame = copies[block] == countInSlots(block);
                if (!isSame || Integer.bitCount(set) != copies[block] || (set & failed) != 0) {
                    return false;
                }
            }
            return true;
        }
    }
}
