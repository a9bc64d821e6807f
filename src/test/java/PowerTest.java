/** Promises 29 to 38: commits and power. */
public final class PowerTest {
    public static void main(String[] args) {
        Check.test("promise 29: sync", PowerTest::sync);
        Check.test("promise 30: flush", PowerTest::flush);
        Check.test("promise 31: writeBack", PowerTest::writeBack);
        Check.test("promise 32: cut", PowerTest::cut);
        Check.test("promise 33: fail", PowerTest::fail);
        Check.test("promise 33: fail, told again or kept", PowerTest::failKept);
        Check.test("promise 33: fail, any writes and bytes", PowerTest::failAnywhere);
        Check.test("promise 34: mount", PowerTest::mount);
        Check.test("promise 34: mount brings back what was committed", PowerTest::mountBringsBack);
        Check.test("promise 35: isDown", PowerTest::isDown);
        Check.test("promise 36: mounts", PowerTest::mounts);
        Check.test("promise 37: waiting", PowerTest::waiting);
        Check.test("promise 38: changes", PowerTest::changes);
        Check.end();
    }

    private static void sync() {
        JournalDisk d = new JournalDisk();
        Check.is(d.sync(), true);
        d.makeFile(0, 1);
        d.open(1);
        d.lock(0, 0, 5, true);
        Check.is(d.sync(), true);
        Check.is(d.waiting(), 0);
        Check.is(d.handles(), 1);
        Check.is(d.lockAt(1, 4), 2);
        d.makeFile(0, 2);
        d.cut();
        d.mount();
        Check.is(d.nodes(), 2);
        Check.is(d.lookup(0, 1), 1);
        d.fail(0, 1, 0);
        Check.is(d.sync(), true);
        Check.is(d.isDown(), false);
        d.makeFile(0, 2);
        Check.is(d.sync(), false);
        Check.is(d.isDown(), true);
        d.mount();
        Check.is(d.nodes(), 2);
        d.makeFile(0, 2);
        Check.is(d.sync(), true);
        Check.down(x -> x.sync());
    }

    private static void flush() {
        JournalDisk d = new JournalDisk();
        Check.is(d.flush(), true);
        d.makeFile(0, 1);
        Check.is(d.flush(), true);
        Check.is(d.waiting(), 0);
        d.makeFile(0, 2);
        d.fail(2, 40, 40);
        Check.is(d.sync(), true);
        d.makeFile(0, 3);
        Check.is(d.flush(), false);
        Check.is(d.isDown(), true);
        Check.is(d.mount(), 0);
        Check.is(d.nodes(), 4);
        Check.is(d.flush(), true);
        d.fail(2, 1, 0);
        Check.is(d.flush(), false);
        Check.is(d.mount(), 0);
        d.fail(0, 1, 0);
        Check.is(d.flush(), true);
        d.makeFile(0, 4);
        Check.is(d.flush(), false);
        d.mount();
        Check.is(d.nodes(), 4);
        d.fail(1, 1, 32);
        d.makeFile(0, 4);
        Check.is(d.flush(), false);
        d.mount();
        Check.is(d.nodes(), 5);
        d.fail(3, 1, 32);
        Check.is(d.flush(), true);
        Check.down(x -> x.flush());
    }

    private static void writeBack() {
        JournalDisk d = new JournalDisk();
        Given.file(d, 0, 1, 100);
        Check.keeps(d, () -> d.writeBack(0, 0));
        d.sync();
        d.punch(1, 0);
        Check.keeps(d, () -> d.writeBack(Integer.MIN_VALUE, 50));
        Check.keeps(d, () -> d.writeBack(Integer.MAX_VALUE, 1));
        d.fail(2, 1, 1);
        d.writeBack(3, 9);
        Check.is(d.isDown(), false);
        d.cut();
        d.mount();
        Check.is(d.byteAt(1, 0), 1);
        Check.argument(() -> {
            d.writeBack(0, -1);
            return 0;
        });
        Check.argument(() -> {
            d.writeBack(0, 51);
            return 0;
        });
        Check.down(x -> x.writeBack(0, 51));
    }

    private static void cut() {
        JournalDisk d = new JournalDisk();
        d.makeFile(0, 1);
        d.sync();
        d.open(1);
        d.lock(0, 0, 10, true);
        d.makeFile(0, 2);
        d.cut();
        Check.is(d.isDown(), true);
        d.mount();
        Check.is(d.handles(), 0);
        Check.is(d.lockAt(1, 0), 0);
        Check.index(() -> d.nodeOf(0));
        Check.is(d.typeOf(2), 0);
        Check.is(d.waiting(), 0);
        Check.is(d.changes(), 1);
        Check.is(d.open(1), 0);
        Check.is(d.lockRows(0), 0);
        Check.down(x -> x.cut());
    }

    /** Falls in a sync() with one change, in the way told, and tells whether that change was kept. */
    private static boolean isKept(int when, int writes, int bytes) {
        JournalDisk d = new JournalDisk();
        d.makeFile(0, 1);
        d.fail(when, writes, bytes);
        Check.is(d.sync(), false);
        Check.is(d.isDown(), true);
        Check.is(d.mount(), 0);
        return d.typeOf(1) == 1;
    }

    private static void fail() {
        Check.is(isKept(0, 1, 0), false);
        Check.is(isKept(0, 40, 40), false);
        Check.is(isKept(1, 1, 0), false);
        Check.is(isKept(1, 1, 31), false);
        Check.is(isKept(1, 1, 32), true);
        Check.is(isKept(1, 40, 40), true);
        Check.is(isKept(1, 40, 31), false);
        JournalDisk d = new JournalDisk();
        Check.keeps(d, () -> Check.argument(() -> failing(d, -1, 1, 0)));
        Check.argument(() -> failing(d, 4, 1, 0));
        Check.argument(() -> failing(d, 0, 0, 0));
        Check.argument(() -> failing(d, 0, 41, 0));
        Check.argument(() -> failing(d, 0, 1, -1));
        Check.argument(() -> failing(d, 0, 1, 41));
        d.makeFile(0, 1);
        Check.is(d.sync(), true);
        d.cut();
        Check.argument(() -> failing(d, 3, 1, 41));
        Check.is(d.mount(), 0);
        d.cut();
        d.fail(3, 1, 1);
        Check.is(d.mount(), -9);
        Check.is(d.mount(), 0);
    }

    private static int failing(JournalDisk disk, int when, int writes, int bytes) {
        disk.fail(when, writes, bytes);
        return 0;
    }

    private static void failKept() {
        JournalDisk d = new JournalDisk();
        d.fail(0, 1, 1);
        d.cut();
        d.mount();
        d.makeFile(0, 1);
        Check.is(d.sync(), false);
        d.mount();
        d.makeFile(0, 1);
        d.fail(0, 1, 1);
        d.fail(3, 1, 1);
        Check.is(d.sync(), true);
        Check.is(d.flush(), true);
        d.cut();
        d.fail(2, 1, 1);
        Check.is(d.mount(), 0);
        Check.is(d.sync(), true);
        Check.is(d.flush(), false);
        Check.is(d.mount(), 0);
        Check.is(d.flush(), true);
        d.fail(1, 5, 40);
        Check.argument(() -> failing(d, 9, 1, 1));
        for (int k = 0; k < 7; k++) {
            Check.is(d.setQuota(1, k) >= 0, true);
        }
        Check.is(d.setQuota(1, 50), -9);
        Check.is(d.isDown(), true);
        d.mount();
        Check.is(d.quotaOf(1), 50);
        d.fail(0, 1, 1);
        for (int k = 0; k < 7; k++) {
            d.setQuota(1, k);
        }
        Check.is(d.setQuota(1, 51), -9);
        d.mount();
        Check.is(d.quotaOf(1), 50);
    }

    private static void failAnywhere() {
        for (int writes = 1; writes <= 40; writes += 3) {
            for (int bytes = 0; bytes <= 40; bytes++) {
                Check.is(isKept(0, writes, bytes), false);
                Check.is(isKept(1, writes, bytes), bytes >= 32);
                JournalDisk d = new JournalDisk();
                d.makeFile(0, 1);
                d.fail(2, writes, bytes);
                Check.is(d.flush(), false);
                d.fail(3, writes, bytes);
                Check.is(d.mount(), -9);
                Check.is(d.mount(), 0);
                Check.is(d.typeOf(1), 1);
            }
        }
    }

    private static void mount() {
        JournalDisk d = new JournalDisk();
        Check.state(d::mount);
        Given.file(d, 0, 1, 64);
        Given.file(d, 0, 2, 64);
        d.makeFile(0, 3);
        d.open(1);
        d.open(2);
        d.open(3);
        d.unlink(0, 1);
        d.unlink(0, 2);
        d.sync();
        d.unlink(0, 3);
        int before = d.changes();
        Check.is(d.used(), 8);
        d.cut();
        d.fail(3, 1, 1);
        Check.is(d.mount(), -9);
        Check.is(d.isDown(), true);
        Check.is(d.mounts(), 0);
        Check.state(d::used);
        Check.is(d.mount(), 2);
        Check.is(d.isDown(), false);
        Check.is(d.nodes(), 2);
        Check.is(d.typeOf(1), 0);
        Check.is(d.lookup(0, 3), 3);
        Check.is(d.used(), 1);
        Check.is(d.changes(), before - 1);
        Check.is(d.waiting(), 0);
        d.cut();
        Check.is(d.mount(), 0);
        Check.is(d.nodes(), 2);
        Check.is(d.changes(), before - 1);
        Check.state(d::mount);
        d.open(3);
        d.unlink(0, 3);
        d.sync();
        d.close(0);
        Check.is(d.typeOf(3), 0);
        d.cut();
        Check.is(d.mount(), 1);
    }

    private static void mountBringsBack() {
        JournalDisk d = new JournalDisk();
        Given.file(d, 0, 1, 40);
        d.makeFolder(0, 2);
        d.makeLink(2, 3, 1, 1, 0);
        d.cloneFile(2, 4, 1);
        d.setOwner(2, 2);
        d.setQuota(2, 55);
        d.flush();
        d.cut();
        d.mount();
        long kept = d.digest();
        d.open(1);
        d.write(0, 5, 77);
        d.truncate(4, 3);
        d.setOwner(2, 1);
        d.setQuota(2, 54);
        d.rename(2, 4, 0, 9);
        d.exchange(0, 2, 0, 9);
        Check.is(d.waiting(), 6);
        d.cut();
        d.mount();
        // mounts() alone is other than before.
        Check.is(d.mounts(), 2);
        Check.is(d.byteAt(1, 0), 1);
        Check.is(d.sizeOf(4), 40);
        Check.is(d.sharedOf(4), 3);
        Check.is(d.ownerOf(2), 2);
        Check.is(d.quotaOf(2), 55);
        Check.is(d.lookup(2, 4), 4);
        Check.is(d.lookup(0, 2), 2);
        Check.is(d.follow(2, 3), 1);
        Check.is(d.parentOf(2), 0);
        JournalDisk e = new JournalDisk();
        Given.file(e, 0, 1, 40);
        e.makeFolder(0, 2);
        e.makeLink(2, 3, 1, 1, 0);
        e.cloneFile(2, 4, 1);
        e.setOwner(2, 2);
        e.setQuota(2, 55);
        e.flush();
        e.cut();
        e.mount();
        Check.is(e.digest(), kept);
        e.cut();
        e.mount();
        Check.is(e.digest(), d.digest());
    }

    private static void isDown() {
        JournalDisk d = new JournalDisk();
        Check.is(d.isDown(), false);
        d.cut();
        Check.is(d.isDown(), true);
        d.fail(3, 1, 1);
        d.mount();
        Check.is(d.isDown(), true);
        d.mount();
        Check.is(d.isDown(), false);
        d.fail(2, 1, 1);
        Check.is(d.isDown(), false);
        d.flush();
        Check.is(d.isDown(), true);
    }

    private static void mounts() {
        JournalDisk d = new JournalDisk();
        Check.is(d.mounts(), 0);
        d.cut();
        Check.is(d.mounts(), 0);
        d.fail(3, 1, 1);
        d.mount();
        Check.is(d.mounts(), 0);
        d.mount();
        Check.is(d.mounts(), 1);
        Check.state(d::mount);
        Check.is(d.mounts(), 1);
        d.cut();
        d.mount();
        Check.is(d.mounts(), 2);
    }

    private static void waiting() {
        JournalDisk d = new JournalDisk();
        for (int k = 1; k <= 7; k++) {
            d.setQuota(0, 120);
            Check.is(d.waiting(), k);
        }
        Check.is(d.makeFile(0, 1), 1);
        Check.is(d.waiting(), 0);
        Check.is(d.makeFile(0, 1), -2);
        Check.is(d.waiting(), 0);
        d.open(1);
        d.lock(0, 0, 1, true);
        d.seek(0, 5);
        d.read(0, 5);
        Check.is(d.waiting(), 0);
        d.unlink(0, 1);
        Check.is(d.waiting(), 1);
        d.close(0);
        Check.is(d.waiting(), 2);
        d.cut();
        Check.is(d.mount(), 0);
        Check.is(d.waiting(), 0);
        Check.is(d.typeOf(1), 1);
        d.setQuota(0, 1);
        Check.is(d.waiting(), 1);
        d.sync();
        Check.is(d.waiting(), 0);
        Check.down(x -> x.waiting());
    }

    private static void changes() {
        JournalDisk d = new JournalDisk();
        for (int k = 1; k <= 9; k++) {
            d.setQuota(0, 120);
            Check.is(d.changes(), k);
        }
        d.cut();
        d.mount();
        Check.is(d.changes(), 8);
        d.setQuota(0, 120);
        Check.is(d.changes(), 9);
        d.sync();
        Check.is(d.changes(), 9);
        Check.is(d.unlink(0, 1), -1);
        Check.argument(() -> d.setQuota(0, 121));
        Check.is(d.changes(), 9);
        Check.down(x -> x.changes());
    }
}
