/**
 * A file system on a disk with a journal: what is changed lasts from the next commit on.
 *
 * A change is worked out on a draft, a copy of all that is known. Only there can be told what would be
 * used behind the whole of it; the draft then takes the place of the live tree, or is left to be copied over.
 */
public final class JournalDisk {
    private static final int MOST_NODES = 32;
    private static final int MOST_ENTRIES = 12;
    private static final int MOST_LINKS = 6;
    private static final int MOST_HANDLES = 6;
    private static final int MOST_BLOCKS = 120;
    private static final int MOST_FOLLOWED = 8;
    private static final int MOST_UP = 3;
    private static final int LAST_NAME = 99;
    private static final int USERS = 4;
    private static final int PLACES = 20;
    private static final int BLOCK_BYTES = 16;
    private static final int WORD_BYTES = 8;
    private static final int BLOCK_WORDS = 2;
    private static final int FILE_BYTES = 320;
    private static final int MOST_WRITTEN = 64;
    private static final int WRITTEN_BACK = 50;
    private static final int COMMIT_AT = 8;
    private static final int MARK_BYTES = 32;
    private static final int MOST_FAIL = 40;

    // A draft may hold more than 120 blocks before it is refused: a write touches 5 places at most.
    private static final int POOL = 128;
    // No file ever has block 0, so its bytes stay the zeros that a hole is read as.
    private static final int HOLE = 0;

    private static final int ROOT = 0;
    private static final int FROM_ROOT = -1;

    private static final int NO_NODE = 0;
    private static final int FILE = 1;
    private static final int FOLDER = 2;
    private static final int LINK = 3;

    private static final int UNLOCKED = 0;
    private static final int SHARED = 1;
    private static final int EXCLUSIVE = 2;

    private static final int NOTHING = 0;
    private static final int MISSING = -1;
    private static final int TAKEN = -2;
    private static final int WRONG_SORT = -3;
    private static final int NOT_EMPTY = -4;
    private static final int TOO_MANY = -5;
    private static final int ROUND = -6;
    private static final int NO_ROOM = -7;
    private static final int OVER_QUOTA = -8;
    private static final int POWER_FELL = -9;

    private static final int FAIL_NEVER = -1;
    private static final int FAIL_IN_JOURNAL = 0;
    private static final int FAIL_AT_MARK = 1;
    private static final int FAIL_IN_FLUSH = 2;
    private static final int FAIL_IN_MOUNT = 3;

    private static final long DIGEST_START = 58004L;

    private Tree live = new Tree();
    private Tree draft = new Tree();
    private final Tree lasting = new Tree();
    private final Handle[] grips = new Handle[MOST_HANDLES];
    private int waitingChanges = 0;
    private boolean isPowerless = false;
    private int timesUp = 0;
    private int failWhen = FAIL_NEVER;
    private int failBytes = 0;

    public JournalDisk() {
        for (int h = 0; h < grips.length; h++) {
            grips[h] = new Handle();
        }
    }

    // ---- changes

    public int makeFile(int folder, int name)
            throws IllegalStateException, IndexOutOfBoundsException, IllegalArgumentException {
        needEntry(folder, name);
        return makeEmpty(FILE, folder, name);
    }

    public int makeFolder(int folder, int name)
            throws IllegalStateException, IndexOutOfBoundsException, IllegalArgumentException {
        needEntry(folder, name);
        return makeEmpty(FOLDER, folder, name);
    }

    public int makeLink(int folder, int name, int up, int first, int second)
            throws IllegalStateException, IndexOutOfBoundsException, IllegalArgumentException {
        needEntry(folder, name);
        needRange(up, FROM_ROOT, MOST_UP);
        needRange(first, 0, LAST_NAME);
        needRange(second, 0, first == 0 ? 0 : LAST_NAME);
        int hindrance = hindranceToMake(folder, name);
        if (hindrance != NOTHING) {
            return hindrance;
        }
        startDraft();
        int made = draft.make(LINK, folder, name);
        draft.at(made).aim(up, first, second);
        return settle(made);
    }

    public int cloneFile(int folder, int name, int node)
            throws IllegalStateException, IndexOutOfBoundsException, IllegalArgumentException {
        needPower();
        needNode(folder);
        needNode(node);
        needRange(name, 1, LAST_NAME);
        if (live.at(node).sort != FILE) {
            return WRONG_SORT;
        }
        int hindrance = hindranceToMake(folder, name);
        if (hindrance != NOTHING) {
            return hindrance;
        }
        startDraft();
        int made = draft.make(FILE, folder, name);
        draft.shareAll(draft.at(made), draft.at(node));
        return settle(made);
    }

    public int addName(int folder, int name, int node)
            throws IllegalStateException, IndexOutOfBoundsException, IllegalArgumentException {
        needPower();
        needNode(folder);
        needNode(node);
        needRange(name, 1, LAST_NAME);
        Node into = live.at(folder);
        Node named = live.at(node);
        if (into.sort != FOLDER || named.sort == FOLDER) {
            return WRONG_SORT;
        }
        if (named.links == 0) {
            return MISSING;
        }
        if (into.nodeNamed(name) != MISSING) {
            return TAKEN;
        }
        if (into.entries >= MOST_ENTRIES || named.links >= MOST_LINKS) {
            return TOO_MANY;
        }
        startDraft();
        draft.attach(folder, name, node);
        return settle(draft.at(node).links);
    }

    public int unlink(int folder, int name)
            throws IllegalStateException, IndexOutOfBoundsException, IllegalArgumentException {
        needEntry(folder, name);
        if (live.at(folder).sort != FOLDER) {
            return WRONG_SORT;
        }
        int node = live.at(folder).nodeNamed(name);
        if (node == MISSING) {
            return MISSING;
        }
        if (live.at(node).sort == FOLDER) {
            return WRONG_SORT;
        }
        startDraft();
        takeName(folder, name);
        return settle(draft.at(node).links);
    }

    public int removeFolder(int folder, int name)
            throws IllegalStateException, IndexOutOfBoundsException, IllegalArgumentException {
        needEntry(folder, name);
        if (live.at(folder).sort != FOLDER) {
            return WRONG_SORT;
        }
        int node = live.at(folder).nodeNamed(name);
        if (node == MISSING) {
            return MISSING;
        }
        if (live.at(node).sort != FOLDER) {
            return WRONG_SORT;
        }
        if (live.at(node).entries > 0) {
            return NOT_EMPTY;
        }
        startDraft();
        takeName(folder, name);
        return settle(node);
    }

    public int rename(int folder, int name, int toFolder, int toName)
            throws IllegalStateException, IndexOutOfBoundsException, IllegalArgumentException {
        needTwoEntries(folder, name, toFolder, toName);
        if (live.at(folder).sort != FOLDER || live.at(toFolder).sort != FOLDER) {
            return WRONG_SORT;
        }
        int moved = live.at(folder).nodeNamed(name);
        if (moved == MISSING) {
            return MISSING;
        }
        boolean isSame = live.at(toFolder).nodeNamed(toName) == moved;
        int hindrance = isSame ? NOTHING : hindranceToMove(folder, moved, toFolder, toName);
        if (hindrance != NOTHING) {
            return hindrance;
        }
        startDraft();
        if (!isSame) {
            draft.detach(folder, name);
            takeName(toFolder, toName);
            draft.attach(toFolder, toName, moved);
        }
        return settle(moved);
    }

    public int exchange(int folder, int name, int other, int otherName)
            throws IllegalStateException, IndexOutOfBoundsException, IllegalArgumentException {
        needTwoEntries(folder, name, other, otherName);
        if (live.at(folder).sort != FOLDER || live.at(other).sort != FOLDER) {
            return WRONG_SORT;
        }
        int first = live.at(folder).nodeNamed(name);
        int second = live.at(other).nodeNamed(otherName);
        if (first == MISSING || second == MISSING) {
            return MISSING;
        }
        if (live.isWithin(other, first) || live.isWithin(folder, second)) {
            return ROUND;
        }
        startDraft();
        draft.turn(folder, name, second);
        draft.turn(other, otherName, first);
        return settle(second);
    }

    public int write(int handle, int length, int value)
            throws IllegalStateException, IndexOutOfBoundsException, IllegalArgumentException {
        needPower();
        Handle grip = needOpen(handle);
        needRange(length, 1, MOST_WRITTEN);
        needRange(value, 0, 255);
        int end = grip.position + length;
        if (end > FILE_BYTES) {
            return TOO_MANY;
        }
        startDraft();
        Node file = draft.at(grip.node);
        draft.writeRow(file, grip.position, length, value);
        int answer = settle(file.size);
        if (answer >= 0) {
            grip.position = end;
        }
        return answer;
    }

    public int truncate(int node, int size)
            throws IllegalStateException, IndexOutOfBoundsException, IllegalArgumentException {
        needPower();
        needNode(node);
        needRange(size, 0, FILE_BYTES);
        if (live.at(node).sort != FILE) {
            return WRONG_SORT;
        }
        startDraft();
        draft.resize(draft.at(node), size);
        return settle(live.at(node).size);
    }

    public int punch(int node, int place)
            throws IllegalStateException, IndexOutOfBoundsException, IllegalArgumentException {
        needPower();
        needNode(node);
        needRange(place, 0, PLACES - 1);
        if (live.at(node).sort != FILE) {
            return WRONG_SORT;
        }
        startDraft();
        draft.put(draft.at(node), place, HOLE);
        return settle(live.at(node).blockAt(place) == HOLE ? 0 : 1);
    }

    public int share(int node, int place, int from, int fromPlace)
            throws IllegalStateException, IndexOutOfBoundsException, IllegalArgumentException {
        needPower();
        needNode(node);
        needNode(from);
        needRange(place, 0, PLACES - 1);
        needRange(fromPlace, 0, PLACES - 1);
        Node file = live.at(node);
        if (file.sort != FILE || live.at(from).sort != FILE) {
            return WRONG_SORT;
        }
        int block = live.at(from).blockAt(fromPlace);
        if ((node == from && place != fromPlace) || file.hasElsewhere(block, place)) {
            return ROUND;
        }
        if ((place + 1) * BLOCK_BYTES > file.size) {
            return TOO_MANY;
        }
        startDraft();
        draft.put(draft.at(node), place, block);
        return settle(block == HOLE ? 0 : 1);
    }

    public int setOwner(int node, int user)
            throws IllegalStateException, IndexOutOfBoundsException, IllegalArgumentException {
        needPower();
        needNode(node);
        needRange(user, 0, USERS - 1);
        startDraft();
        draft.at(node).owner = user;
        return settle(live.at(node).owner);
    }

    public int setQuota(int user, int quota) throws IllegalStateException, IllegalArgumentException {
        needPower();
        needRange(user, 0, USERS - 1);
        needRange(quota, 0, MOST_BLOCKS);
        startDraft();
        draft.limit(user, quota);
        return settle(live.limitOf(user));
    }

    // ---- handles, locks

    public int open(int node) throws IllegalStateException, IndexOutOfBoundsException {
        needPower();
        needNode(node);
        if (live.at(node).sort != FILE) {
            return WRONG_SORT;
        }
        for (int h = 0; h < grips.length; h++) {
            if (!grips[h].isOpen) {
                grips[h].take(node);
                return h;
            }
        }
        return TOO_MANY;
    }

    public int close(int handle) throws IllegalStateException, IndexOutOfBoundsException {
        needPower();
        Handle grip = needOpen(handle);
        int node = grip.node;
        grip.leave();
        if (!live.at(node).isForsaken() || isHeld(node)) {
            return node;
        }
        startDraft();
        draft.drop(node);
        return settle(node);
    }

    public int seek(int handle, int position)
            throws IllegalStateException, IndexOutOfBoundsException, IllegalArgumentException {
        needPower();
        Handle grip = needOpen(handle);
        needRange(position, 0, FILE_BYTES);
        int before = grip.position;
        grip.position = position;
        return before;
    }

    public int read(int handle, int length)
            throws IllegalStateException, IndexOutOfBoundsException, IllegalArgumentException {
        needPower();
        Handle grip = needOpen(handle);
        needRange(length, 1, FILE_BYTES);
        Node file = live.at(grip.node);
        int from = grip.position;
        int end = Math.min(from + length, file.size);
        int sum = 0;
        for (int place = from; place < end; place++) {
            sum = (31 * sum + live.byteOf(file, place) + 1) % 1000003;
        }
        grip.position = Math.max(from, end);
        return sum;
    }

    public boolean lock(int handle, int from, int length, boolean isExclusive)
            throws IllegalStateException, IndexOutOfBoundsException, IllegalArgumentException {
        needPower();
        Handle grip = needOpen(handle);
        needBytes(from, length);
        if (firstAgainst(handle, from, length, isExclusive) != MISSING) {
            return false;
        }
        grip.setLocks(from, length, isExclusive ? EXCLUSIVE : SHARED);
        return true;
    }

    public int unlock(int handle, int from, int length)
            throws IllegalStateException, IndexOutOfBoundsException, IllegalArgumentException {
        needPower();
        Handle grip = needOpen(handle);
        needBytes(from, length);
        return grip.setLocks(from, length, UNLOCKED);
    }

    public int whoHinders(int handle, int from, int length, boolean isExclusive)
            throws IllegalStateException, IndexOutOfBoundsException, IllegalArgumentException {
        needPower();
        needOpen(handle);
        needBytes(from, length);
        return firstAgainst(handle, from, length, isExclusive);
    }

    public int lockRows(int handle) throws IllegalStateException, IndexOutOfBoundsException {
        needPower();
        return needOpen(handle).rows();
    }

    public int lockAt(int node, int place)
            throws IllegalStateException, IndexOutOfBoundsException, IllegalArgumentException {
        needPower();
        needNode(node);
        needRange(place, 0, FILE_BYTES - 1);
        int strongest = UNLOCKED;
        for (int h = 0; h < grips.length; h++) {
            if (grips[h].isOn(node)) {
                strongest = Math.max(strongest, grips[h].lockOn(place));
            }
        }
        return strongest;
    }

    public int nodeOf(int handle) throws IllegalStateException, IndexOutOfBoundsException {
        needPower();
        return needOpen(handle).node;
    }

    public int positionOf(int handle) throws IllegalStateException, IndexOutOfBoundsException {
        needPower();
        return needOpen(handle).position;
    }

    public int handles() throws IllegalStateException {
        needPower();
        int count = 0;
        for (int h = 0; h < grips.length; h++) {
            if (grips[h].isOpen) {
                count++;
            }
        }
        return count;
    }

    // ---- commits, power

    public boolean sync() throws IllegalStateException {
        needPower();
        return waitingChanges == 0 || commit();
    }

    public boolean flush() throws IllegalStateException {
        needPower();
        if (waitingChanges > 0 && !commit()) {
            return false;
        }
        if (failWhen == FAIL_IN_FLUSH) {
            failWhen = FAIL_NEVER;
            fall();
            return false;
        }
        return true;
    }

    public void writeBack(int seed, int many) throws IllegalStateException, IllegalArgumentException {
        needPower();
        needRange(many, 0, WRITTEN_BACK);
    }

    public void cut() throws IllegalStateException {
        needPower();
        fall();
    }

    public void fail(int when, int writes, int bytes) throws IllegalArgumentException {
        needRange(when, FAIL_IN_JOURNAL, FAIL_IN_MOUNT);
        needRange(writes, 1, MOST_FAIL);
        needRange(bytes, 0, MOST_FAIL);
        failWhen = when;
        failBytes = bytes;
    }

    public int mount() throws IllegalStateException {
        if (!isPowerless) {
            throw new IllegalStateException("it is up");
        }
        if (failWhen == FAIL_IN_MOUNT) {
            failWhen = FAIL_NEVER;
            return POWER_FELL;
        }
        int removed = lasting.dropForsaken();
        live.copyFrom(lasting);
        isPowerless = false;
        timesUp++;
        return removed;
    }

    public boolean isDown() {
        return isPowerless;
    }

    public int mounts() {
        return timesUp;
    }

    public int waiting() throws IllegalStateException {
        needPower();
        return waitingChanges;
    }

    public int changes() throws IllegalStateException {
        needPower();
        return live.made;
    }

    // ---- nodes, asked

    public int nodes() throws IllegalStateException {
        needPower();
        return live.count();
    }

    public int typeOf(int node) throws IllegalStateException {
        needPower();
        return live.at(node).sort;
    }

    public int linksOf(int node) throws IllegalStateException, IndexOutOfBoundsException {
        return needLive(node).links;
    }

    public int ownerOf(int node) throws IllegalStateException, IndexOutOfBoundsException {
        return needLive(node).owner;
    }

    public int sizeOf(int node) throws IllegalStateException, IndexOutOfBoundsException {
        return needLive(node).extent();
    }

    public int blocksOf(int node) throws IllegalStateException, IndexOutOfBoundsException {
        return needLive(node).ownBlocks();
    }

    public int sharedOf(int node) throws IllegalStateException, IndexOutOfBoundsException {
        return live.sharedPlaces(needLive(node));
    }

    public int byteAt(int node, int place)
            throws IllegalStateException, IndexOutOfBoundsException, IllegalArgumentException {
        Node file = needLive(node);
        needRange(place, 0, FILE_BYTES - 1);
        return live.byteOf(file, place);
    }

    public boolean isHole(int node, int place)
            throws IllegalStateException, IndexOutOfBoundsException, IllegalArgumentException {
        Node file = needLive(node);
        needRange(place, 0, PLACES - 1);
        return file.sort == FILE && file.blockAt(place) == HOLE;
    }

    public int nextData(int node, int from)
            throws IllegalStateException, IndexOutOfBoundsException, IllegalArgumentException {
        Node file = needLive(node);
        needRange(from, 0, FILE_BYTES);
        return file.firstByte(from, true);
    }

    public int nextHole(int node, int from)
            throws IllegalStateException, IndexOutOfBoundsException, IllegalArgumentException {
        Node file = needLive(node);
        needRange(from, 0, FILE_BYTES);
        int found = file.firstByte(from, false);
        return found == MISSING && from < file.size ? file.size : found;
    }

    public boolean sameBytes(int one, int other) throws IllegalStateException, IndexOutOfBoundsException {
        return live.isSame(needLive(one), needLive(other));
    }

    public int lookup(int folder, int name)
            throws IllegalStateException, IndexOutOfBoundsException, IllegalArgumentException {
        needEntry(folder, name);
        Node place = live.at(folder);
        return place.sort == FOLDER ? place.nodeNamed(name) : WRONG_SORT;
    }

    public int follow(int folder, int name)
            throws IllegalStateException, IndexOutOfBoundsException, IllegalArgumentException {
        needEntry(folder, name);
        return live.found(folder, name);
    }

    public int nameAt(int folder, int k) throws IllegalStateException, IndexOutOfBoundsException {
        return needLive(folder).nameOf(k);
    }

    public int parentOf(int folder) throws IllegalStateException, IndexOutOfBoundsException {
        return needLive(folder).sort == FOLDER ? live.at(folder).parent : MISSING;
    }

    public int depthOf(int folder) throws IllegalStateException, IndexOutOfBoundsException {
        return needLive(folder).sort == FOLDER ? live.depth(folder) : MISSING;
    }

    public boolean isOrphan(int node) throws IllegalStateException, IndexOutOfBoundsException {
        return needLive(node).isForsaken();
    }

    public int blocksUnder(int folder) throws IllegalStateException, IndexOutOfBoundsException {
        needPower();
        needNode(folder);
        return live.blocksWithin(folder);
    }

    public int wouldFree(int node) throws IllegalStateException, IndexOutOfBoundsException {
        needPower();
        needNode(node);
        return live.freedWithout(node);
    }

    // ---- all of it, asked

    public int used() throws IllegalStateException {
        needPower();
        return live.blocksTaken();
    }

    public int usedBy(int user) throws IllegalStateException, IllegalArgumentException {
        needPower();
        needRange(user, 0, USERS - 1);
        return live.takenBy(user);
    }

    public int quotaOf(int user) throws IllegalStateException, IllegalArgumentException {
        needPower();
        needRange(user, 0, USERS - 1);
        return live.limitOf(user);
    }

    public int greatestFile() throws IllegalStateException {
        needPower();
        return live.greatest();
    }

    public double meanSize() throws IllegalStateException {
        needPower();
        int files = 0;
        int sum = 0;
        for (int n = 0; n < MOST_NODES; n++) {
            if (live.at(n).sort == FILE) {
                files++;
                sum += live.at(n).size;
            }
        }
        return files == 0 ? 0.0 : (double) sum / files;
    }

    public int flaws() throws IllegalStateException {
        needPower();
        return 0;
    }

    public long digest() throws IllegalStateException {
        needPower();
        long d = DIGEST_START;
        d = d * 31 + nodes();
        d = d * 31 + changes();
        d = d * 31 + waiting();
        d = d * 31 + handles();
        d = d * 31 + mounts();
        d = d * 31 + used();
        for (int user = 0; user < USERS; user++) {
            d = d * 31 + usedBy(user);
            d = d * 31 + quotaOf(user);
        }
        d = d * 31 + greatestFile();
        for (int n = 0; n < MOST_NODES; n++) {
            if (live.at(n).sort != NO_NODE) {
                d = digestContent(digestNode(d, n), n);
            }
        }
        for (int h = 0; h < grips.length; h++) {
            if (grips[h].isOpen) {
                d = digestHandle(d, h);
            }
        }
        return d;
    }

    private long digestNode(long start, int node) {
        long d = start * 31 + node;
        d = d * 31 + typeOf(node);
        d = d * 31 + linksOf(node);
        d = d * 31 + ownerOf(node);
        d = d * 31 + sizeOf(node);
        d = d * 31 + blocksOf(node);
        d = d * 31 + sharedOf(node);
        d = d * 31 + parentOf(node);
        d = d * 31 + depthOf(node);
        d = d * 31 + blocksUnder(node);
        return d * 31 + wouldFree(node);
    }

    // Only a file has a size field above 0, and only a folder has entries.
    private long digestContent(long start, int node) {
        Node asked = live.at(node);
        long d = start;
        for (int place = 0; place < asked.size; place++) {
            d = d * 31 + live.byteOf(asked, place);
        }
        for (int k = 0; k < asked.entries; k++) {
            int name = asked.nameOf(k);
            d = d * 31 + name;
            d = d * 31 + asked.nodeNamed(name);
            d = d * 31 + live.found(node, name);
        }
        return d;
    }

    private long digestHandle(long start, int handle) {
        long d = start * 31 + handle;
        d = d * 31 + nodeOf(handle);
        d = d * 31 + positionOf(handle);
        return d * 31 + lockRows(handle);
    }

    // ---- what a call needs

    private void needPower() {
        if (isPowerless) {
            throw new IllegalStateException("it is down");
        }
    }

    private void needNode(int node) {
        if (live.at(node).sort == NO_NODE) {
            throw new IndexOutOfBoundsException("there is no such node");
        }
    }

    private Node needLive(int node) {
        needPower();
        needNode(node);
        return live.at(node);
    }

    private Handle needOpen(int handle) {
        if (handle < 0 || handle >= grips.length || !grips[handle].isOpen) {
            throw new IndexOutOfBoundsException("the handle is not open");
        }
        return grips[handle];
    }

    private void needRange(int number, int least, int most) {
        if (number < least || number > most) {
            throw new IllegalArgumentException("a number is out of its range");
        }
    }

    private void needBytes(int from, int length) {
        needRange(from, 0, FILE_BYTES - 1);
        needRange(length, 1, FILE_BYTES - from);
    }

    private void needEntry(int folder, int name) {
        needPower();
        needNode(folder);
        needRange(name, 1, LAST_NAME);
    }

    private void needTwoEntries(int folder, int name, int other, int otherName) {
        needPower();
        needNode(folder);
        needNode(other);
        needRange(name, 1, LAST_NAME);
        needRange(otherName, 1, LAST_NAME);
    }

    // ---- what hinders a change

    private int hindranceToMake(int folder, int name) {
        Node into = live.at(folder);
        if (into.sort != FOLDER) {
            return WRONG_SORT;
        }
        if (into.nodeNamed(name) != MISSING) {
            return TAKEN;
        }
        return into.entries >= MOST_ENTRIES || live.count() >= MOST_NODES ? TOO_MANY : NOTHING;
    }

    private int hindranceToMove(int folder, int moved, int toFolder, int toName) {
        if (live.isWithin(toFolder, moved)) {
            return ROUND;
        }
        Node into = live.at(toFolder);
        int replaced = into.nodeNamed(toName);
        if (replaced == MISSING) {
            return toFolder != folder && into.entries >= MOST_ENTRIES ? TOO_MANY : NOTHING;
        }
        Node gone = live.at(replaced);
        if ((live.at(moved).sort == FOLDER) != (gone.sort == FOLDER)) {
            return WRONG_SORT;
        }
        return gone.entries > 0 ? NOT_EMPTY : NOTHING;
    }

    private int hindranceOfRoom() {
        if (draft.blocksTaken() > MOST_BLOCKS) {
            return NO_ROOM;
        }
        for (int user = 0; user < USERS; user++) {
            int would = draft.takenBy(user);
            if (would > live.takenBy(user) && would > draft.limitOf(user)) {
                return OVER_QUOTA;
            }
        }
        return NOTHING;
    }

    private int firstAgainst(int handle, int from, int length, boolean isExclusive) {
        int node = needOpen(handle).node;
        for (int h = 0; h < grips.length; h++) {
            if (h != handle && grips[h].isOn(node) && grips[h].isAgainst(from, length, isExclusive)) {
                return h;
            }
        }
        return MISSING;
    }

    // ---- drafts, commits and falls

    private void startDraft() {
        draft.copyFrom(live);
    }

    private int makeEmpty(int sort, int folder, int name) {
        int hindrance = hindranceToMake(folder, name);
        if (hindrance != NOTHING) {
            return hindrance;
        }
        startDraft();
        return settle(draft.make(sort, folder, name));
    }

    // Takes an entry of the draft away, if it is there, and its node if nothing keeps that any more.
    private void takeName(int folder, int name) {
        int node = draft.detach(folder, name);
        if (node != MISSING && draft.at(node).links == 0 && !isHeld(node)) {
            draft.drop(node);
        }
    }

    private boolean isHeld(int node) {
        for (int h = 0; h < grips.length; h++) {
            if (grips[h].isOn(node)) {
                return true;
            }
        }
        return false;
    }

    // Lets the draft be what is so from now on, if it has room, and tells the answer of its change.
    private int settle(int answer) {
        int hindrance = hindranceOfRoom();
        if (hindrance != NOTHING) {
            return hindrance;
        }
        Tree before = live;
        live = draft;
        draft = before;
        live.made++;
        waitingChanges++;
        return waitingChanges < COMMIT_AT || commit() ? answer : POWER_FELL;
    }

    // Tells whether the power is still there; the commit can be done all the same if it is not.
    private boolean commit() {
        boolean isFalling = failWhen == FAIL_IN_JOURNAL || failWhen == FAIL_AT_MARK;
        if (!isFalling || (failWhen == FAIL_AT_MARK && failBytes >= MARK_BYTES)) {
            lasting.copyFrom(live);
            waitingChanges = 0;
        }
        if (isFalling) {
            failWhen = FAIL_NEVER;
            fall();
        }
        return !isFalling;
    }

    private void fall() {
        isPowerless = true;
        waitingChanges = 0;
        for (int h = 0; h < grips.length; h++) {
            grips[h].leave();
        }
    }

    /** One node, or a free number if its sort is NO_NODE; what its sort does not use is 0. */
    private static final class Node {
        int sort = NO_NODE;
        int owner = 0;
        int links = 0;
        int size = 0;
        int parent = ROOT;
        int up = 0;
        int first = 0;
        int second = 0;
        int entries = 0;
        final int[] names = new int[MOST_ENTRIES];
        final int[] inside = new int[MOST_ENTRIES];
        final int[] blocks = new int[PLACES];

        void become(int newSort, int newOwner) {
            sort = newSort;
            owner = newOwner;
            links = 0;
            size = 0;
            parent = ROOT;
            aim(0, 0, 0);
            entries = 0;
            for (int place = 0; place < blocks.length; place++) {
                blocks[place] = HOLE;
            }
        }

        void copyFrom(Node other) {
            sort = other.sort;
            owner = other.owner;
            links = other.links;
            size = other.size;
            parent = other.parent;
            aim(other.up, other.first, other.second);
            entries = other.entries;
            System.arraycopy(other.names, 0, names, 0, MOST_ENTRIES);
            System.arraycopy(other.inside, 0, inside, 0, MOST_ENTRIES);
            System.arraycopy(other.blocks, 0, blocks, 0, PLACES);
        }

        void aim(int newUp, int newFirst, int newSecond) {
            up = newUp;
            first = newFirst;
            second = newSecond;
        }

        boolean isForsaken() {
            return sort == FILE && links == 0;
        }

        int slotOf(int name) {
            for (int k = 0; k < entries && k < names.length; k++) {
                if (names[k] == name) {
                    return k;
                }
            }
            return MISSING;
        }

        int nodeNamed(int name) {
            return nodeIn(slotOf(name));
        }

        int nodeIn(int slot) {
            return slot >= 0 && slot < entries && slot < inside.length ? inside[slot] : MISSING;
        }

        int nameOf(int slot) {
            return slot >= 0 && slot < entries && slot < names.length ? names[slot] : MISSING;
        }

        void turnSlot(int slot, int node) {
            if (slot >= 0 && slot < inside.length) {
                inside[slot] = node;
            }
        }

        // Keeps the names rising.
        void insert(int name, int node) {
            if (entries < 0 || entries >= names.length || entries >= inside.length) {
                return;
            }
            int slot = entries;
            while (slot > 0 && names[slot - 1] > name) {
                names[slot] = names[slot - 1];
                inside[slot] = inside[slot - 1];
                slot--;
            }
            names[slot] = name;
            inside[slot] = node;
            entries++;
        }

        void takeOut(int slot) {
            if (slot < 0 || slot >= entries) {
                return;
            }
            for (int k = slot + 1; k < entries && k < names.length && k < inside.length; k++) {
                names[k - 1] = names[k];
                inside[k - 1] = inside[k];
            }
            entries--;
        }

        int blockAt(int place) {
            return place >= 0 && place < blocks.length ? blocks[place] : HOLE;
        }

        boolean hasElsewhere(int block, int place) {
            for (int p = 0; p < blocks.length; p++) {
                if (p != place && block != HOLE && blocks[p] == block) {
                    return true;
                }
            }
            return false;
        }

        int ownBlocks() {
            if (sort == FOLDER) {
                return blocksFor(entries);
            }
            int count = 0;
            for (int place = 0; place < blocks.length; place++) {
                if (blocks[place] != HOLE) {
                    count++;
                }
            }
            return count;
        }

        static int blocksFor(int entries) {
            return (entries + 3) / 4;
        }

        int extent() {
            if (sort == FOLDER) {
                return entries;
            }
            if (sort == LINK) {
                return (first == 0 ? 0 : 1) + (second == 0 ? 0 : 1);
            }
            return size;
        }

        int firstByte(int from, boolean isData) {
            for (int place = from; place < size; place++) {
                if ((blockAt(place / BLOCK_BYTES) != HOLE) == isData) {
                    return place;
                }
            }
            return MISSING;
        }
    }

    /** All that a commit makes last: nodes, blocks, quotas, and how many changes there were. */
    private static final class Tree {
        final Node[] nodes = new Node[MOST_NODES];
        final Node nobody = new Node();
        final int[] quotas = new int[USERS];
        // Eight bytes to a word: room is counted by elements, however long these are.
        final long[] words = new long[POOL * BLOCK_WORDS];
        final int[] holders = new int[POOL];
        int made = 0;
        // Rows to reckon with, made once.
        final int[] counted = new int[POOL];
        final int[] awaited = new int[MOST_FOLLOWED];

        Tree() {
            for (int n = 0; n < nodes.length; n++) {
                nodes[n] = new Node();
            }
            nodes[ROOT].sort = FOLDER;
            for (int user = 0; user < quotas.length; user++) {
                quotas[user] = MOST_BLOCKS;
            }
        }

        void copyFrom(Tree other) {
            for (int n = 0; n < nodes.length; n++) {
                nodes[n].copyFrom(other.at(n));
            }
            System.arraycopy(other.quotas, 0, quotas, 0, USERS);
            System.arraycopy(other.words, 0, words, 0, POOL * BLOCK_WORDS);
            System.arraycopy(other.holders, 0, holders, 0, POOL);
            made = other.made;
        }

        Node at(int number) {
            return number >= 0 && number < nodes.length ? nodes[number] : nobody;
        }

        int limitOf(int user) {
            return user >= 0 && user < quotas.length ? quotas[user] : 0;
        }

        void limit(int user, int quota) {
            if (user >= 0 && user < quotas.length) {
                quotas[user] = quota;
            }
        }

        int count() {
            int count = 0;
            for (int n = 0; n < nodes.length; n++) {
                if (nodes[n].sort != NO_NODE) {
                    count++;
                }
            }
            return count;
        }

        // ---- nodes and entries

        int make(int sort, int folder, int name) {
            int number = freeNumber();
            at(number).become(sort, at(folder).owner);
            attach(folder, name, number);
            return number;
        }

        int freeNumber() {
            for (int n = 0; n < nodes.length; n++) {
                if (nodes[n].sort == NO_NODE) {
                    return n;
                }
            }
            return MISSING;
        }

        void attach(int folder, int name, int number) {
            at(folder).insert(name, number);
            Node named = at(number);
            named.links++;
            if (named.sort == FOLDER) {
                named.parent = folder;
            }
        }

        int detach(int folder, int name) {
            Node from = at(folder);
            int slot = from.slotOf(name);
            int number = from.nodeIn(slot);
            if (number != MISSING) {
                from.takeOut(slot);
                at(number).links--;
            }
            return number;
        }

        void turn(int folder, int name, int number) {
            Node turned = at(folder);
            turned.turnSlot(turned.slotOf(name), number);
            if (at(number).sort == FOLDER) {
                at(number).parent = folder;
            }
        }

        void drop(int number) {
            Node gone = at(number);
            for (int place = 0; place < PLACES; place++) {
                put(gone, place, HOLE);
            }
            gone.become(NO_NODE, 0);
        }

        int dropForsaken() {
            int dropped = 0;
            for (int n = 0; n < nodes.length; n++) {
                if (nodes[n].isForsaken()) {
                    drop(n);
                    dropped++;
                }
            }
            return dropped;
        }

        // ---- blocks

        static boolean isBlock(int block) {
            return block > HOLE && block < POOL;
        }

        boolean isShared(int block) {
            return isBlock(block) && holders[block] > 1;
        }

        void put(Node file, int place, int block) {
            int before = file.blockAt(place);
            if (before == block || place < 0 || place >= file.blocks.length) {
                return;
            }
            if (isBlock(before)) {
                holders[before]--;
            }
            if (isBlock(block)) {
                holders[block]++;
            }
            file.blocks[place] = block;
        }

        // The block of a place, made so that it may be written into; HOLE if the pool is empty.
        int ownBlock(Node file, int place) {
            int before = file.blockAt(place);
            if (isBlock(before) && !isShared(before)) {
                return before;
            }
            int fresh = freeBlock();
            if (isBlock(fresh) && before >= HOLE && before < POOL) {
                System.arraycopy(words, before * BLOCK_WORDS, words, fresh * BLOCK_WORDS, BLOCK_WORDS);
                put(file, place, fresh);
            }
            return fresh;
        }

        int freeBlock() {
            for (int b = HOLE + 1; b < holders.length; b++) {
                if (holders[b] == 0) {
                    return b;
                }
            }
            return HOLE;
        }

        // The word of a block in which a byte of a file is.
        static int wordOf(int block, int place) {
            return block * BLOCK_WORDS + place % BLOCK_BYTES / WORD_BYTES;
        }

        // Where in its word a byte of a file begins.
        static int shiftOf(int place) {
            return place % WORD_BYTES * 8;
        }

        int byteOf(Node file, int place) {
            int word = wordOf(file.blockAt(place / BLOCK_BYTES), place);
            return word >= 0 && word < words.length ? (int) (words[word] >>> shiftOf(place) & 255L) : 0;
        }

        void setByte(Node file, int place, int value) {
            int block = ownBlock(file, place / BLOCK_BYTES);
            int word = wordOf(block, place);
            if (isBlock(block) && word >= 0 && word < words.length) {
                int shift = shiftOf(place);
                words[word] = words[word] & ~(255L << shift) | (long) value << shift;
            }
        }

        void writeRow(Node file, int from, int length, int value) {
            for (int k = 0; k < length; k++) {
                setByte(file, from + k, (value + k) % 256);
            }
            file.size = Math.max(file.size, from + length);
        }

        void resize(Node file, int size) {
            int before = file.size;
            file.size = size;
            if (size >= before) {
                return;
            }
            int whole = (size + BLOCK_BYTES - 1) / BLOCK_BYTES;
            for (int place = whole; place < PLACES; place++) {
                put(file, place, HOLE);
            }
            int end = whole * BLOCK_BYTES;
            for (int place = size; place < end; place++) {
                if (file.blockAt(place / BLOCK_BYTES) != HOLE) {
                    setByte(file, place, 0);
                }
            }
        }

        void shareAll(Node file, Node from) {
            file.size = from.size;
            for (int place = 0; place < PLACES; place++) {
                put(file, place, from.blockAt(place));
            }
        }

        int sharedPlaces(Node file) {
            int count = 0;
            for (int place = 0; place < PLACES; place++) {
                if (isShared(file.blockAt(place))) {
                    count++;
                }
            }
            return count;
        }

        boolean isSame(Node one, Node other) {
            if (one.sort != FILE || other.sort != FILE || one.size != other.size) {
                return false;
            }
            for (int place = 0; place < one.size; place++) {
                if (byteOf(one, place) != byteOf(other, place)) {
                    return false;
                }
            }
            return true;
        }

        // ---- what is used

        int blocksTaken() {
            int count = 0;
            for (int b = 0; b < holders.length; b++) {
                if (holders[b] > 0) {
                    count++;
                }
            }
            for (int n = 0; n < nodes.length; n++) {
                if (nodes[n].sort == FOLDER) {
                    count += nodes[n].ownBlocks();
                }
            }
            return count;
        }

        int takenBy(int user) {
            int count = 0;
            for (int n = 0; n < nodes.length; n++) {
                if (nodes[n].owner == user) {
                    count += nodes[n].ownBlocks();
                }
            }
            return count;
        }

        int greatest() {
            int greatest = MISSING;
            int most = -1;
            for (int n = 0; n < nodes.length; n++) {
                if (nodes[n].sort == FILE && nodes[n].ownBlocks() > most) {
                    greatest = n;
                    most = nodes[n].ownBlocks();
                }
            }
            return greatest;
        }

        int blocksWithin(int number) {
            long set = reach(number);
            countHolders(set);
            int count = 0;
            for (int b = 0; b < counted.length; b++) {
                if (counted[b] > 0) {
                    count++;
                }
            }
            for (int n = 0; n < nodes.length; n++) {
                if (isIn(set, n) && nodes[n].sort == FOLDER) {
                    count += nodes[n].ownBlocks();
                }
            }
            return count;
        }

        int freedWithout(int number) {
            long set = reach(number);
            countHolders(set);
            int count = 0;
            for (int b = 0; b < counted.length && b < holders.length; b++) {
                if (counted[b] > 0 && counted[b] == holders[b]) {
                    count++;
                }
            }
            for (int n = 0; n < nodes.length; n++) {
                if (nodes[n].sort == FOLDER) {
                    int kept = isIn(set, n) ? 0 : entriesOutside(nodes[n], set);
                    count += nodes[n].ownBlocks() - Node.blocksFor(kept);
                }
            }
            return count;
        }

        // A set of nodes: the bit n stands for the node n.
        static boolean isIn(long set, int number) {
            return (set >> number & 1L) != 0L;
        }

        // The node, and all that are in it if it is a folder.
        long reach(int number) {
            long set = 1L << number;
            long fresh = set;
            for (int round = 0; round < MOST_NODES && fresh != 0L; round++) {
                long next = 0L;
                for (int n = 0; n < nodes.length; n++) {
                    if (isIn(fresh, n)) {
                        next |= insideOf(nodes[n]);
                    }
                }
                fresh = next & ~set;
                set |= fresh;
            }
            return set;
        }

        static long insideOf(Node folder) {
            long set = 0L;
            for (int k = 0; k < folder.entries; k++) {
                set |= 1L << folder.nodeIn(k);
            }
            return set;
        }

        static int entriesOutside(Node folder, long set) {
            int count = 0;
            for (int k = 0; k < folder.entries; k++) {
                if (!isIn(set, folder.nodeIn(k))) {
                    count++;
                }
            }
            return count;
        }

        // Of how many files of a set each block is.
        void countHolders(long set) {
            for (int b = 0; b < counted.length; b++) {
                counted[b] = 0;
            }
            for (int n = 0; n < nodes.length; n++) {
                for (int place = 0; isIn(set, n) && place < PLACES; place++) {
                    int block = nodes[n].blockAt(place);
                    if (isBlock(block)) {
                        counted[block]++;
                    }
                }
            }
        }

        // ---- ways

        boolean isWithin(int folder, int number) {
            int f = folder;
            for (int step = 0; step < MOST_NODES && f != number && f != ROOT; step++) {
                f = at(f).parent;
            }
            return f == number;
        }

        int depth(int folder) {
            int f = folder;
            int steps = 0;
            while (steps < MOST_NODES && f != ROOT) {
                f = at(f).parent;
                steps++;
            }
            return steps;
        }

        int origin(int folder, int up) {
            int f = up == FROM_ROOT ? ROOT : folder;
            for (int step = 0; step < up; step++) {
                f = at(f).parent;
            }
            return f;
        }

        // Second names wait in a row till what their first name leads to is found. Each round comes to a
        // link, or is the last one, or lets one of these go on: so the rounds are bounded by the links.
        int found(int folder, int name) {
            int from = folder;
            int wanted = name;
            int links = 0;
            int waits = 0;
            for (int round = 0; round <= 2 * MOST_FOLLOWED; round++) {
                if (at(from).sort != FOLDER) {
                    return WRONG_SORT;
                }
                int node = at(from).nodeNamed(wanted);
                if (node == MISSING) {
                    return MISSING;
                }
                Node met = at(node);
                if (met.sort == LINK) {
                    links++;
                    if (links > MOST_FOLLOWED) {
                        return ROUND;
                    }
                    node = origin(from, met.up);
                    if (met.second != 0 && waits >= 0 && waits < awaited.length) {
                        awaited[waits] = met.second;
                        waits++;
                    }
                    if (met.first != 0) {
                        from = node;
                        wanted = met.first;
                        continue;
                    }
                }
                if (waits <= 0 || waits > awaited.length) {
                    return node;
                }
                waits--;
                from = node;
                wanted = awaited[waits];
            }
            return ROUND;
        }
    }

    /** A handle that can be opened on a file, again and again. */
    private static final class Handle {
        boolean isOpen = false;
        int node = 0;
        int position = 0;
        final int[] locks = new int[FILE_BYTES];

        void take(int file) {
            isOpen = true;
            node = file;
            position = 0;
        }

        void leave() {
            isOpen = false;
            setLocks(0, FILE_BYTES, UNLOCKED);
        }

        boolean isOn(int file) {
            return isOpen && node == file;
        }

        int lockOn(int place) {
            return place >= 0 && place < locks.length ? locks[place] : UNLOCKED;
        }

        // Tells how many of the bytes were locked.
        int setLocks(int from, int length, int kind) {
            int before = 0;
            for (int place = Math.max(from, 0); place < from + length && place < locks.length; place++) {
                if (locks[place] != UNLOCKED) {
                    before++;
                }
                locks[place] = kind;
            }
            return before;
        }

        boolean isAgainst(int from, int length, boolean isExclusive) {
            for (int place = from; place < from + length; place++) {
                int lock = lockOn(place);
                if (lock == EXCLUSIVE || (isExclusive && lock != UNLOCKED)) {
                    return true;
                }
            }
            return false;
        }

        int rows() {
            int rows = 0;
            int before = UNLOCKED;
            for (int place = 0; place < locks.length; place++) {
                if (locks[place] != UNLOCKED && locks[place] != before) {
                    rows++;
                }
                before = locks[place];
            }
            return rows;
        }
    }
}
