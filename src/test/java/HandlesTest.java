/** Promises 17 to 28: handles and locks. */
public final class HandlesTest {
    public static void main(String[] args) {
        Check.test("promise 17: open", HandlesTest::open);
        Check.test("promise 18: close", HandlesTest::close);
        Check.test("promise 19: seek", HandlesTest::seek);
        Check.test("promise 20: read", HandlesTest::read);
        Check.test("promise 21: lock", HandlesTest::lock);
        Check.test("promise 22: unlock", HandlesTest::unlock);
        Check.test("promise 23: whoHinders", HandlesTest::whoHinders);
        Check.test("promise 24: lockRows", HandlesTest::lockRows);
        Check.test("promise 25: lockAt", HandlesTest::lockAt);
        Check.test("promise 26: nodeOf", HandlesTest::nodeOf);
        Check.test("promise 27: positionOf", HandlesTest::positionOf);
        Check.test("promise 28: handles", HandlesTest::handles);
        Check.end();
    }

    /** The files 1 and 2, named so, with 40 bytes each; the handles 0 to 2 on file 1, and 3 on file 2. */
    private static JournalDisk opened() {
        JournalDisk d = new JournalDisk();
        Given.file(d, 0, 1, 40);
        Given.file(d, 0, 2, 40);
        d.sync();
        d.open(1);
        d.open(1);
        d.open(1);
        d.open(2);
        return d;
    }

    private static void open() {
        JournalDisk d = new JournalDisk();
        d.makeFile(0, 1);
        d.makeFile(0, 2);
        d.makeLink(0, 3, 0, 1, 0);
        Check.is(d.open(1), 0);
        Check.is(d.open(2), 1);
        Check.is(d.open(1), 2);
        d.close(1);
        Check.is(d.open(1), 1);
        Check.is(d.open(1), 3);
        Check.is(d.open(1), 4);
        Check.is(d.open(2), 5);
        Check.keeps(d, () -> Check.is(d.open(2), -5));
        Check.is(d.open(0), -3);
        Check.is(d.open(3), -3);
        d.close(0);
        d.unlink(0, 2);
        Check.is(d.isOrphan(2), true);
        Check.is(d.open(2), 0);
        Check.is(d.open(3), -3);
        Check.is(d.changes(), 4);
        Check.is(d.positionOf(0), 0);
        Check.index(() -> d.open(4));
        Check.index(() -> d.open(-1));
        Check.index(() -> d.open(32));
        Check.down(x -> x.open(40));
    }

    private static void close() {
        JournalDisk d = opened();
        d.seek(0, 9);
        d.lock(0, 0, 320, true);
        Check.is(d.close(0), 1);
        Check.is(d.lockAt(1, 5), 0);
        Check.is(d.handles(), 3);
        Check.is(d.open(2), 0);
        Check.is(d.positionOf(0), 0);
        Check.is(d.lockRows(0), 0);
        d.unlink(0, 1);
        int before = d.changes();
        Check.is(d.close(1), 1);
        Check.is(d.typeOf(1), 1);
        Check.is(d.changes(), before);
        Check.is(d.close(2), 1);
        Check.is(d.typeOf(1), 0);
        Check.is(d.changes(), before + 1);
        Check.is(d.waiting(), 2);
        Check.is(d.close(3), 2);
        Check.is(d.close(0), 2);
        Check.is(d.typeOf(2), 1);
        Check.is(d.changes(), before + 1);
        Check.index(() -> d.close(0));
        Check.index(() -> d.close(-1));
        Check.index(() -> d.close(6));
        Check.down(x -> x.close(9));
        closeCommits();
    }

    private static void closeCommits() {
        for (int when = -1; when <= 1; when++) {
            JournalDisk d = opened();
            d.unlink(0, 2);
            for (int k = 0; k < 6; k++) {
                d.setQuota(3, k);
            }
            Check.is(d.waiting(), 7);
            if (when >= 0) {
                d.fail(when, 1, 40);
            }
            Check.is(d.close(0), 1);
            Check.is(d.close(3), when < 0 ? 2 : -9);
            Check.is(d.isDown(), when >= 0);
            if (when < 0) {
                Check.is(d.waiting(), 0);
                d.cut();
            }
            Check.is(d.mount(), 0);
            Check.is(d.typeOf(2), when == 0 ? 1 : 0);
            Check.is(d.linksOf(1), 1);
        }
    }

    private static void seek() {
        JournalDisk d = opened();
        Check.is(d.seek(0, 320), 0);
        Check.is(d.seek(0, 7), 320);
        Check.is(d.seek(0, 0), 7);
        Check.is(d.positionOf(1), 0);
        Check.is(d.changes(), 4);
        d.seek(0, 5);
        Check.keeps(d, () -> Check.argument(() -> d.seek(0, -1)));
        Check.keeps(d, () -> Check.argument(() -> d.seek(0, 321)));
        Check.index(() -> d.seek(4, -1));
        Check.index(() -> d.seek(-1, 0));
        Check.index(() -> d.seek(6, 0));
        Check.down(x -> x.seek(9, -1));
    }

    private static void read() {
        JournalDisk d = opened();
        Check.is(d.read(0, 1), 2);
        Check.is(d.positionOf(0), 1);
        Check.is(d.read(0, 2), 3 * 31 + 4);
        d.seek(0, 0);
        long sum = 0;
        for (int b = 1; b <= 40; b++) {
            sum = (31 * sum + b + 1) % 1000003;
        }
        Check.is(d.read(0, 320), sum);
        Check.is(d.positionOf(0), 40);
        Check.is(d.read(0, 5), 0);
        Check.is(d.positionOf(0), 40);
        d.seek(0, 100);
        Check.is(d.read(0, 5), 0);
        Check.is(d.positionOf(0), 100);
        d.truncate(1, 101);
        Check.is(d.read(0, 5), 1);
        Check.is(d.positionOf(0), 101);
        Check.is(d.positionOf(1), 0);
        Check.is(d.changes(), 5);
        Check.argument(() -> d.read(0, 0));
        Check.argument(() -> d.read(0, 321));
        Check.index(() -> d.read(4, 0));
        Check.index(() -> d.read(-1, 1));
        Check.down(x -> x.read(9, 0));
    }

    private static void lock() {
        JournalDisk d = opened();
        Check.is(d.lock(0, 10, 10, false), true);
        Check.is(d.lock(1, 15, 10, false), true);
        Check.keeps(d, () -> Check.is(d.lock(1, 0, 11, true), false));
        Check.keeps(d, () -> Check.is(d.lock(1, 19, 1, true), false));
        Check.is(d.lock(1, 20, 1, true), true);
        Check.keeps(d, () -> Check.is(d.lock(0, 5, 20, false), false));
        Check.is(d.lock(1, 0, 10, true), true);
        Check.is(d.lock(0, 9, 2, false), false);
        Check.is(d.lockAt(1, 10), 1);
        Check.is(d.lock(0, 10, 5, true), true);
        Check.is(d.lockAt(1, 14), 2);
        Check.is(d.lockAt(1, 15), 1);
        Check.is(d.lock(0, 10, 5, false), true);
        Check.is(d.lockAt(1, 14), 1);
        Check.is(d.lock(3, 0, 320, true), true);
        Check.is(d.lock(2, 319, 1, true), true);
        Check.is(d.lock(2, 0, 1, false), false);
        Check.is(d.changes(), 4);
        d.write(2, 64, 0);
        Check.is(d.sizeOf(1), 64);
        locksWrong((x, h, from, length) -> x.lock(h, from, length, true));
    }

    interface Locking {
        void run(JournalDisk disk, int handle, int from, int length);
    }

    private static void locksWrong(Locking call) {
        JournalDisk d = opened();
        int[][] wrong = {
            {-1, 1}, {320, 1}, {320, 0}, {0, 0}, {0, 321}, {319, 2}, {319, 0}, {100, 221}, {5, -1},
            {1, Integer.MAX_VALUE}, {Integer.MIN_VALUE, 1}, {Integer.MAX_VALUE, 1}, {-5, 3}
        };
        for (int[] pair : wrong) {
            Check.keeps(d, () -> Check.argument(() -> {
                call.run(d, 0, pair[0], pair[1]);
                return 0;
            }));
            Check.index(() -> {
                call.run(d, 5, pair[0], pair[1]);
                return 0;
            });
        }
        Check.index(() -> {
            call.run(d, -1, 0, 1);
            return 0;
        });
        call.run(d, 0, 0, 320);
        call.run(d, 0, 319, 1);
        call.run(d, 0, 100, 220);
        Check.down(x -> call.run(x, 9, -1, 0));
    }

    private static void unlock() {
        JournalDisk d = opened();
        d.lock(0, 10, 10, false);
        d.lock(0, 15, 3, true);
        d.lock(1, 10, 5, false);
        Check.is(d.unlock(0, 0, 12), 2);
        Check.is(d.unlock(0, 0, 12), 0);
        Check.is(d.unlock(0, 16, 1), 1);
        Check.is(d.lockAt(1, 15), 2);
        Check.is(d.lockAt(1, 16), 0);
        Check.is(d.lockAt(1, 17), 2);
        Check.is(d.unlock(0, 0, 320), 7);
        Check.is(d.lockAt(1, 12), 1);
        Check.is(d.unlock(3, 0, 320), 0);
        Check.is(d.changes(), 4);
        locksWrong((x, h, from, length) -> x.unlock(h, from, length));
    }

    private static void whoHinders() {
        JournalDisk d = opened();
        Check.is(d.whoHinders(0, 0, 320, true), -1);
        d.lock(2, 10, 5, false);
        d.lock(1, 12, 5, false);
        Check.is(d.whoHinders(0, 0, 320, false), -1);
        Check.is(d.whoHinders(0, 0, 320, true), 1);
        Check.is(d.whoHinders(0, 0, 12, true), 2);
        Check.is(d.whoHinders(0, 0, 10, true), -1);
        Check.is(d.whoHinders(1, 0, 320, true), 2);
        Check.is(d.whoHinders(2, 0, 12, true), -1);
        Check.is(d.whoHinders(3, 0, 320, true), -1);
        d.lock(0, 300, 20, true);
        Check.is(d.whoHinders(1, 319, 1, false), 0);
        Check.is(d.whoHinders(0, 0, 11, true), 2);
        Check.is(d.whoHinders(1, 0, 300, false), -1);
        Check.is(d.lockAt(1, 0), 0);
        locksWrong((x, h, from, length) -> x.whoHinders(h, from, length, true));
    }

    private static void lockRows() {
        JournalDisk d = opened();
        Check.is(d.lockRows(0), 0);
        d.lock(0, 0, 5, false);
        Check.is(d.lockRows(0), 1);
        d.lock(0, 5, 5, false);
        Check.is(d.lockRows(0), 1);
        d.lock(0, 5, 1, true);
        Check.is(d.lockRows(0), 3);
        d.lock(0, 319, 1, true);
        Check.is(d.lockRows(0), 4);
        d.unlock(0, 5, 1);
        Check.is(d.lockRows(0), 3);
        Check.is(d.lockRows(1), 0);
        Check.index(() -> d.lockRows(4));
        Check.index(() -> d.lockRows(-1));
        Check.index(() -> d.lockRows(6));
        Check.down(x -> x.lockRows(9));
    }

    private static void lockAt() {
        JournalDisk d = opened();
        d.lock(0, 0, 320, false);
        d.lock(1, 319, 1, false);
        d.lock(3, 0, 1, true);
        Check.is(d.lockAt(1, 0), 1);
        Check.is(d.lockAt(1, 319), 1);
        Check.is(d.lockAt(2, 0), 2);
        Check.is(d.lockAt(2, 1), 0);
        Check.is(d.lockAt(0, 0), 0);
        Check.argument(() -> d.lockAt(1, 320));
        Check.argument(() -> d.lockAt(0, -1));
        Check.index(() -> d.lockAt(3, 320));
        Check.index(() -> d.lockAt(-1, 0));
        Check.down(x -> x.lockAt(40, 320));
    }

    private static void nodeOf() {
        JournalDisk d = opened();
        Check.is(d.nodeOf(0), 1);
        Check.is(d.nodeOf(3), 2);
        Check.index(() -> d.nodeOf(4));
        Check.index(() -> d.nodeOf(-1));
        Check.index(() -> d.nodeOf(6));
        Check.down(x -> x.nodeOf(9));
    }

    private static void positionOf() {
        JournalDisk d = opened();
        Check.is(d.positionOf(0), 0);
        d.seek(0, 320);
        d.write(1, 12, 0);
        Check.is(d.positionOf(0), 320);
        Check.is(d.positionOf(1), 12);
        Check.index(() -> d.positionOf(4));
        Check.index(() -> d.positionOf(-1));
        Check.index(() -> d.positionOf(6));
        Check.down(x -> x.positionOf(9));
    }

    private static void handles() {
        JournalDisk d = opened();
        Check.is(d.handles(), 4);
        d.close(1);
        Check.is(d.handles(), 3);
        d.cut();
        Check.state(d::handles);
        d.mount();
        Check.is(d.handles(), 0);
        Check.is(new JournalDisk().handles(), 0);
        Check.down(x -> x.handles());
    }
}
