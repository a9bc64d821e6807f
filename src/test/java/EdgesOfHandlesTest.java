/** Promises 17 to 28 at their edges: handles and locks. */
public final class EdgesOfHandlesTest {
    /** One of the methods that have a handle, the first byte and the length of bytes. */
    interface Locking {
        Object of(JournalDisk disk, int handle, int from, int length);
    }

    public static void main(String[] args) {
        Check.test("promise 17: there is no such node", () -> Bounds.noNode(JournalDisk::open));
        Check.test("promise 17: it is DOWN", () -> Bounds.down(d -> d.open(40)));
        Check.test("promise 17: node is no file", EdgesOfHandlesTest::openNoFile);
        Check.test("promise 17: there are 4, 5, 6 handles", EdgesOfHandlesTest::openMany);
        Check.test("promise 17: the smallest number that is not open", EdgesOfHandlesTest::openSmallest);
        Check.test("promise 17: at POSITION 0, without locks, no CHANGE", EdgesOfHandlesTest::openFresh);
        Check.test("promise 17: also an ORPHAN", EdgesOfHandlesTest::openOrphan);
        Check.test("promise 18: the handle is not open", () -> Bounds.noHandle(JournalDisk::close));
        Check.test("promise 18: it is DOWN", () -> Bounds.down(d -> d.close(9)));
        Check.test("promise 18: its locks go, those of others stay", EdgesOfHandlesTest::closeLocks);
        Check.test("promise 18: an ORPHAN goes with its last handle", EdgesOfHandlesTest::closeOrphan);
        Check.test("promise 18: a CHANGE only if it is removed", EdgesOfHandlesTest::closeChange);
        Check.test("promise 18: -9 with 6, 7 that wait", EdgesOfHandlesTest::closeCommit);
        Check.test("promise 19: position is 0 to 320", EdgesOfHandlesTest::seekRange);
        Check.test("promise 19: the handle is not open", () -> Bounds.noHandle((d, x) -> d.seek(x, 321)));
        Check.test("promise 19: it is DOWN", () -> Bounds.down(d -> d.seek(9, 321)));
        Check.test("promise 20: length is 1 to 320", EdgesOfHandlesTest::readRange);
        Check.test("promise 20: the handle is not open", () -> Bounds.noHandle((d, x) -> d.read(x, 0)));
        Check.test("promise 20: it is DOWN", () -> Bounds.down(d -> d.read(9, 0)));
        Check.test("promise 20: those ahead of SIZE, or none", EdgesOfHandlesTest::readSize);
        Check.test("promise 20: the number that it becomes", EdgesOfHandlesTest::readNumber);
        testBytes("promise 21", (d, h, from, length) -> d.lock(h, from, length, true));
        Check.test("promise 21: which locks hinder which", EdgesOfHandlesTest::lockKinds);
        Check.test("promise 21: bytes beside those of another one", EdgesOfHandlesTest::lockBeside);
        Check.test("promise 21: its own locks are replaced", EdgesOfHandlesTest::lockOwn);
        Check.test("promise 21: the bytes 0 and 319, also behind SIZE", EdgesOfHandlesTest::lockEdges);
        Check.test("promise 21: the same bytes of another file", EdgesOfHandlesTest::lockOtherFile);
        Check.test("promise 21: locks hinder only locks", EdgesOfHandlesTest::lockOnly);
        testBytes("promise 22", JournalDisk::unlock);
        Check.test("promise 22: how many it had locked", EdgesOfHandlesTest::unlockCount);
        testBytes("promise 23", (d, h, from, length) -> d.whoHinders(h, from, length, false));
        Check.test("promise 23: the smallest other handle", EdgesOfHandlesTest::hindersSmallest);
        Check.test("promise 23: it changes nothing", EdgesOfHandlesTest::hindersKeeps);
        Check.test("promise 24: the handle is not open", () -> Bounds.noHandle(JournalDisk::lockRows));
        Check.test("promise 24: it is DOWN", () -> Bounds.down(d -> d.lockRows(9)));
        Check.test("promise 24: rows as long as can be", EdgesOfHandlesTest::rows);
        Check.test("promise 25: place is 0 to 319", EdgesOfHandlesTest::lockAtPlace);
        Check.test("promise 25: there is no such node", () -> Bounds.noNode((d, x) -> d.lockAt(x, 320)));
        Check.test("promise 25: it is DOWN", () -> Bounds.down(d -> d.lockAt(40, 320)));
        Check.test("promise 25: 0, 1, 2", EdgesOfHandlesTest::lockAtKinds);
        Check.test("promise 26: the handle is not open", () -> Bounds.noHandle(JournalDisk::nodeOf));
        Check.test("promise 26: it is DOWN", () -> Bounds.down(d -> d.nodeOf(9)));
        Check.test("promise 26: the number of its file", EdgesOfHandlesTest::nodeOfHandle);
        Check.test("promise 27: the handle is not open", () -> Bounds.noHandle(JournalDisk::positionOf));
        Check.test("promise 27: it is DOWN", () -> Bounds.down(d -> d.positionOf(9)));
        Check.test("promise 27: POSITIONs 0 to 320", EdgesOfHandlesTest::positions);
        Check.test("promise 28: it is DOWN", () -> Bounds.down(JournalDisk::handles));
        Check.test("promise 28: 0 to 6", EdgesOfHandlesTest::handleCount);
        Check.end();
    }

    /** File 1 (40 bytes) and file 2 (20 bytes) in the ROOT, named so, and so many handles on file 1. */
    private static Scene handles(int many) {
        return d -> {
            Given.file(d, 0, 1, 40);
            Given.file(d, 0, 2, 20);
            for (int h = 0; h < many; h++) {
                d.open(1);
            }
        };
    }

    // ---- promise 17

    private static void openNoFile() {
        for (int node : new int[] {0, 2, 4}) {
            Bounds.refuses(Scenes.USUAL, d -> d.open(node), -3);
        }
        // Ahead of -5.
        Bounds.refuses(handles(6), d -> d.open(0), -3);
    }

    private static void openMany() {
        for (int many = 0; many <= 5; many++) {
            Bounds.tells(handles(many), d -> d.open(1), many);
            Bounds.tells(handles(many), d -> d.open(2), many);
            Bounds.tells(handles(many).then(d -> d.open(2)), JournalDisk::handles, many + 1);
        }
        Bounds.refuses(handles(6), d -> d.open(1), -5);
        Bounds.refuses(handles(6), d -> d.open(2), -5);
        Bounds.refuses(handles(6), d -> d.open(7), Bounds.INDEX);
    }

    private static void openSmallest() {
        for (int closed = 0; closed <= 5; closed++) {
            for (int second = 0; second <= 5; second++) {
                int one = closed;
                int other = second;
                Scene scene = handles(6).then(d -> d.close(one)).then(d -> Scene.answer(d, x -> x.close(other)));
                Bounds.tells(scene, d -> d.open(2), Math.min(closed, second));
                Bounds.tells(scene.then(d -> d.open(2)), d -> d.open(1), closed == second ? -5
                        : Math.max(closed, second));
            }
        }
    }

    private static void openFresh() {
        JournalDisk d = handles(1).made();
        int changes = d.changes();
        d.seek(0, 320);
        d.lock(0, 0, 320, true);
        d.close(0);
        Check.is(d.open(1), 0);
        Check.is(d.positionOf(0), 0);
        Check.is(d.lockRows(0), 0);
        Check.is(d.lockAt(1, 0), 0);
        Check.is(d.lockAt(1, 319), 0);
        Check.is(d.unlock(0, 0, 320), 0);
        Check.is(d.changes(), changes);
    }

    private static void openOrphan() {
        Bounds.tells(Scenes.USUAL, d -> d.open(6), 3);
        Scene twice = Scenes.USUAL.then(d -> d.open(6)).then(d -> d.close(0));
        Bounds.tells(twice, d -> d.isOrphan(6), true);
        Bounds.tells(twice, d -> d.close(3), 6);
        Bounds.tells(twice.then(d -> d.close(3)), d -> d.typeOf(6), 0);
    }

    // ---- promise 18

    private static void closeLocks() {
        JournalDisk d = Scenes.USUAL.made();
        Check.is(d.lockAt(1, 0), 1);
        Check.is(d.lockAt(1, 5), 1);
        Check.is(d.lockAt(1, 20), 2);
        Check.is(d.close(1), 1);
        Check.is(d.lockAt(1, 0), 0);
        Check.is(d.lockAt(1, 5), 1);
        Check.is(d.lockAt(1, 14), 1);
        Check.is(d.lockAt(1, 20), 0);
        Check.is(d.lockAt(1, 319), 2);
        Check.is(d.lockRows(2), 2);
        Bounds.refuses(Scenes.USUAL.then(x -> x.close(1)), x -> x.close(1), Bounds.INDEX);
        Check.is(d.close(2), 1);
        Check.is(d.lockAt(1, 319), 0);
    }

    private static void closeOrphan() {
        for (int handles = 1; handles <= 6; handles++) {
            JournalDisk d = handles(handles).made();
            Check.is(d.unlink(0, 1), 0);
            int used = d.used();
            for (int h = handles - 1; h >= 0; h--) {
                Check.is(d.typeOf(1), 1);
                Check.is(d.isOrphan(1), true);
                Check.is(d.used(), used);
                Check.is(d.close(h), 1);
            }
            Check.is(d.typeOf(1), 0);
            Check.is(d.nodes(), 2);
            Check.is(d.used(), used - 3);
            Check.is(d.makeFolder(0, 9), 1);
        }
    }

    private static void closeChange() {
        // The file has a name: no CHANGE, and it stays.
        Scene named = handles(2);
        Bounds.tells(named, JournalDisk::changes, 4);
        Bounds.tells(named.then(d -> d.close(0)).then(d -> d.close(1)), JournalDisk::changes, 4);
        Bounds.tells(named.then(d -> d.close(0)).then(d -> d.close(1)), d -> d.typeOf(1), 1);
        // It is an ORPHAN with another handle, and then without one.
        Scene orphan = named.then(d -> d.unlink(0, 1));
        Bounds.tells(orphan.then(d -> d.close(0)), JournalDisk::changes, 5);
        Bounds.tells(orphan.then(d -> d.close(0)), JournalDisk::waiting, 5);
        Bounds.tells(orphan.then(d -> d.close(0)).then(d -> d.close(1)), JournalDisk::changes, 6);
        Bounds.tells(orphan.then(d -> d.close(0)).then(d -> d.close(1)), JournalDisk::waiting, 6);
        // A handle on another file does not keep it.
        Scene other = orphan.then(d -> d.close(0)).then(d -> d.open(2));
        Bounds.tells(other.then(d -> d.close(1)), d -> d.typeOf(1), 0);
        // What is removed is lost with the power, and the ORPHAN is then found by mount().
        Scene lost = Scenes.waiting(orphan.then(d -> d.close(0)), 0).then(d -> d.close(1)).then(JournalDisk::cut);
        Bounds.tells(lost, JournalDisk::mount, 1);
        Scene kept = Scenes.waiting(orphan.then(d -> d.close(0)), 7).then(d -> d.close(1)).then(JournalDisk::cut);
        Bounds.tells(kept, JournalDisk::mount, 0);
    }

    private static void closeCommit() {
        for (int many = 6; many <= 7; many++) {
            int count = many;
            Scene orphan = Scenes.waiting(handles(1).then(d -> d.unlink(0, 1)), many);
            Bounds.tells(orphan, d -> d.close(0), 1);
            Bounds.tells(orphan.then(d -> d.close(0)), JournalDisk::waiting, many == 6 ? 7 : 0);
            for (int bytes = 31; bytes <= 33; bytes++) {
                int done = bytes;
                Scene falling = orphan.then(d -> d.fail(1, 1, done));
                Bounds.tells(falling, d -> d.close(0), many == 6 ? 1 : -9);
                Bounds.tells(falling.then(d -> d.close(0)), JournalDisk::isDown, many == 7);
                Scene up = falling.then(d -> d.close(0)).then(d -> Scene.answer(d, JournalDisk::mount));
                Bounds.tells(up, d -> d.typeOf(1), 0);
                Bounds.tells(up, d -> d.quotaOf(3), count == 6 ? 105 : bytes < 32 ? 120 : 106);
            }
            Scene journal = orphan.then(d -> d.fail(0, 1, 40));
            Bounds.tells(journal, d -> d.close(0), many == 6 ? 1 : -9);
        }
        // No CHANGE, no COMMIT.
        Scene named = Scenes.waiting(handles(1), 7).then(d -> d.fail(0, 1, 1));
        Bounds.tells(named, d -> d.close(0), 1);
        Bounds.tells(named.then(d -> d.close(0)), JournalDisk::isDown, false);
    }

    // ---- promises 19 and 20

    private static void seekRange() {
        Bounds.range(Scenes.USUAL, 0, 320, (d, x) -> d.seek(0, x), x -> 9);
        for (int position : new int[] {0, 1, 16, 17, 319, 320}) {
            JournalDisk d = Scenes.USUAL.then(x -> x.seek(0, position)).made();
            Check.is(d.positionOf(0), position);
            Check.is(d.positionOf(1), 7);
            Check.is(d.seek(0, 3), position);
            Check.is(d.waiting(), 2);
            Check.is(d.sizeOf(6), 16);
        }
    }

    /** What read() makes of bytes, from the document's words. */
    private static int sum(int... bytes) {
        long sum = 0;
        for (int b : bytes) {
            sum = (31 * sum + b + 1) % 1000003;
        }
        return (int) sum;
    }

    private static int[] rising(int first, int many) {
        int[] row = new int[many];
        for (int k = 0; k < many; k++) {
            row[k] = (first + k) % 256;
        }
        return row;
    }

    private static void readRange() {
        // Handle 1 is at 7 of 40 bytes, which are 1 to 40.
        Bounds.range(Scenes.USUAL, 1, 320, (d, x) -> d.read(1, x), x -> sum(rising(8, Math.min(x, 33))));
        for (int length = 1; length <= 35; length++) {
            int many = length;
            Bounds.tells(Scenes.USUAL.then(d -> d.read(1, many)), d -> d.positionOf(1), Math.min(7 + length, 40));
        }
        Bounds.tells(handles(1), d -> d.read(0, 320), sum(rising(1, 40)));
    }

    private static void readSize() {
        for (int position = 38; position <= 42; position++) {
            int at = position;
            Scene scene = handles(2).then(d -> d.seek(0, at));
            int left = Math.max(0, 40 - position);
            Bounds.tells(scene, d -> d.read(0, 320), sum(rising(position + 1, left)));
            Bounds.tells(scene.then(d -> d.read(0, 320)), d -> d.positionOf(0), Math.max(40, position));
            Bounds.tells(scene.then(d -> d.read(0, 1)), d -> d.positionOf(0), Math.max(Math.min(40, position + 1),
                    position));
            Bounds.tells(scene.then(d -> d.read(0, 320)), d -> d.positionOf(1), 0);
        }
        Bounds.tells(handles(1).then(d -> d.seek(0, 320)), d -> d.read(0, 320), 0);
        // With all 320 bytes, to the very end.
        Scene whole = Scenes.EMPTY.then(d -> {
            Given.file(d, 0, 1, 320);
            d.open(1);
        });
        Bounds.tells(whole, d -> d.read(0, 320), sum(rising(1, 320)));
        Bounds.tells(whole, d -> d.read(0, 319), sum(rising(1, 319)));
        Bounds.tells(whole.then(d -> d.read(0, 319)), d -> d.read(0, 1), 64 + 1);
        Bounds.tells(whole.then(d -> d.read(0, 320)), d -> d.read(0, 1), 0);
        Bounds.tells(whole.then(d -> d.seek(0, 319)), d -> d.read(0, 2), 64 + 1);
        // A file without bytes, and no CHANGE.
        Bounds.tells(handles(1).then(d -> d.truncate(1, 0)), d -> d.read(0, 1), 0);
        Bounds.tells(handles(1).then(d -> d.read(0, 320)), JournalDisk::changes, 4);
    }

    private static void readNumber() {
        // HOLEs are read as zeros, each makes 31 times what was, and 1.
        Scene holes = handles(1).then(d -> d.punch(1, 0));
        Bounds.tells(holes, d -> d.read(0, 1), 1);
        Bounds.tells(holes, d -> d.read(0, 2), 32);
        Bounds.tells(holes, d -> d.read(0, 3), 993);
        Bounds.tells(holes, d -> d.read(0, 17), sum(0, 0, 0, 0, 0, 0, 0, 0, 0, 0, 0, 0, 0, 0, 0, 0, 17));
        // 255 is the most that a byte is; the remainder comes in from the fourth one on.
        Scene high = Scenes.EMPTY.then(d -> {
            d.makeFile(0, 1);
            d.open(1);
            for (int k = 0; k < 5; k++) {
                d.seek(0, k);
                d.write(0, 1, 255);
            }
            d.seek(0, 0);
        });
        Bounds.tells(high, d -> d.read(0, 1), 256);
        Bounds.tells(high, d -> d.read(0, 2), 256 * 32);
        Bounds.tells(high, d -> d.read(0, 3), 256 * (961 + 31 + 1));
        Bounds.tells(high, d -> d.read(0, 4), (256 * (961 + 31 + 1) * 31 + 256) % 1000003);
        Bounds.tells(high, d -> d.read(0, 5), sum(255, 255, 255, 255, 255));
    }

    // ---- promises 21 to 23, what they have alike

    private static void testBytes(String promise, Locking call) {
        Check.test(promise + ": from is 0 to 319", () -> bytesFrom(call));
        Check.test(promise + ": length is 1 to 320 - from", () -> bytesLength(call));
        Check.test(promise + ": the handle is not open", () -> bytesHandle(call));
        Check.test(promise + ": it is DOWN", () -> Bounds.down(d -> call.of(d, 9, 320, 0)));
    }

    private static void bytesFrom(Locking call) {
        Bounds.wrong(Scenes.USUAL, 0, 319, (d, x) -> call.of(d, 4, x, 1));
        Bounds.wrong(Scenes.USUAL, 0, 319, (d, x) -> call.of(d, 4, x, 0));
        for (int from : new int[] {0, 1, 318, 319}) {
            Object answer = Scene.answer(Scenes.USUAL.made(), d -> call.of(d, 4, from, 1));
            Check.is(String.valueOf(answer).startsWith("throws"), false);
        }
    }

    private static void bytesLength(Locking call) {
        for (int from : new int[] {0, 1, 2, 160, 317, 318, 319}) {
            Bounds.wrong(Scenes.USUAL, 1, 320 - from, (d, x) -> call.of(d, 4, from, x));
            for (int length : new int[] {1, 320 - from}) {
                Object answer = Scene.answer(Scenes.USUAL.made(), d -> call.of(d, 4, from, length));
                Check.is(String.valueOf(answer).startsWith("throws"), false);
            }
        }
    }

    private static void bytesHandle(Locking call) {
        Bounds.noHandle((d, x) -> call.of(d, x, 0, 1));
        Bounds.noHandle((d, x) -> call.of(d, x, -1, 1));
        Bounds.noHandle((d, x) -> call.of(d, x, 0, 321));
    }

    // ---- promise 21

    private static void lockKinds() {
        boolean[] kinds = {false, true};
        int[][] touching = {{0, 11}, {10, 1}, {10, 10}, {12, 3}, {19, 1}, {19, 301}, {9, 12}, {0, 320}};
        for (boolean theirs : kinds) {
            Scene scene = handles(2).then(d -> d.lock(1, 10, 10, theirs));
            for (boolean own : kinds) {
                for (int[] part : touching) {
                    if (theirs || own) {
                        Bounds.refuses(scene, d -> d.lock(0, part[0], part[1], own), false);
                        Bounds.tells(scene, d -> d.whoHinders(0, part[0], part[1], own), 1);
                    } else {
                        Bounds.tells(scene, d -> d.lock(0, part[0], part[1], own), true);
                        Bounds.tells(scene, d -> d.whoHinders(0, part[0], part[1], own), -1);
                    }
                }
            }
        }
        // The power of a lock is not lost when another one is refused: what it had itself stays.
        Scene mixed = handles(2).then(d -> {
            d.lock(0, 0, 15, false);
            d.lock(0, 3, 2, true);
            d.lock(1, 10, 10, false);
        });
        Bounds.refuses(mixed, d -> d.lock(0, 0, 11, true), false);
        Bounds.refuses(mixed, d -> d.lock(1, 4, 1, false), false);
        Bounds.tells(mixed, d -> d.lock(0, 0, 10, true), true);
        Bounds.tells(mixed, d -> d.lock(1, 5, 10, false), true);
    }

    private static void lockBeside() {
        boolean[] kinds = {false, true};
        int[][] beside = {{0, 10}, {9, 1}, {20, 1}, {20, 300}, {319, 1}};
        for (boolean theirs : kinds) {
            for (boolean own : kinds) {
                for (int[] part : beside) {
                    Scene scene = handles(2).then(d -> d.lock(1, 10, 10, theirs));
                    Bounds.tells(scene, d -> d.lock(0, part[0], part[1], own), true);
                    Scene locked = scene.then(d -> d.lock(0, part[0], part[1], own));
                    Bounds.tells(locked, d -> d.lockAt(1, part[0]), own ? 2 : 1);
                    Bounds.tells(locked, d -> d.lockAt(1, part[0] + part[1] - 1), own ? 2 : 1);
                    Bounds.tells(locked, d -> d.lockAt(1, 10), theirs ? 2 : 1);
                    Bounds.tells(locked, d -> d.lockAt(1, 19), theirs ? 2 : 1);
                    Bounds.tells(locked, d -> d.unlock(0, 0, 320), part[1]);
                }
            }
        }
    }

    private static void lockOwn() {
        boolean[] kinds = {false, true};
        for (boolean first : kinds) {
            for (boolean then : kinds) {
                JournalDisk d = handles(1).made();
                Check.is(d.lock(0, 10, 10, first), true);
                Check.is(d.lock(0, 15, 10, then), true);
                for (int place = 8; place < 27; place++) {
                    boolean isExclusive = place >= 15 ? then : first;
                    Check.is(d.lockAt(1, place), place < 10 || place > 24 ? 0 : isExclusive ? 2 : 1);
                }
                Check.is(d.lockRows(0), first == then ? 1 : 2);
                Check.is(d.unlock(0, 0, 320), 15);
            }
        }
    }

    private static void lockEdges() {
        for (int from : new int[] {0, 1, 39, 40, 318, 319}) {
            JournalDisk d = handles(1).made();
            Check.is(d.lock(0, from, 1, true), true);
            for (int place = 0; place < 320; place++) {
                Check.is(d.lockAt(1, place), place == from ? 2 : 0);
            }
        }
        Scene all = handles(2).then(d -> d.lock(1, 0, 320, false));
        Bounds.tells(all, d -> d.lock(0, 0, 320, false), true);
        Bounds.refuses(all, d -> d.lock(0, 319, 1, true), false);
        Bounds.refuses(all, d -> d.lock(0, 0, 1, true), false);
        // Of a file without bytes.
        Scene empty = Scenes.EMPTY.then(d -> d.makeFile(0, 1)).then(d -> d.open(1));
        Bounds.tells(empty, d -> d.lock(0, 0, 320, true), true);
    }

    private static void lockOtherFile() {
        Scene scene = handles(2).then(d -> {
            d.open(2);
            d.lock(2, 0, 320, true);
        });
        Bounds.tells(scene, d -> d.lock(0, 0, 320, true), true);
        Bounds.tells(scene, d -> d.whoHinders(0, 0, 320, true), -1);
        Bounds.tells(scene, d -> d.lockAt(1, 0), 0);
        Bounds.tells(scene, d -> d.lockAt(2, 0), 2);
        // Two names of one file are one file, and its clone is another.
        Scene cloned = scene.then(d -> d.cloneFile(0, 3, 2)).then(d -> d.open(3));
        Bounds.tells(cloned, d -> d.lock(3, 0, 320, true), true);
    }

    private static void lockOnly() {
        // Handle 1 has all bytes of file 1 locked for itself.
        Scene locked = handles(2).then(d -> d.lock(1, 0, 320, true));
        Bounds.tells(locked, d -> d.read(0, 1), 2);
        Bounds.tells(locked, d -> d.write(0, 64, 1), 64);
        Bounds.tells(locked, d -> d.truncate(1, 3), 40);
        Bounds.tells(locked, d -> d.punch(1, 0), 1);
        Bounds.tells(locked, d -> d.share(1, 0, 2, 0), 1);
        Bounds.tells(locked, d -> d.cloneFile(0, 3, 1), 3);
        Bounds.tells(locked, d -> d.unlink(0, 1), 0);
        Bounds.tells(locked, d -> d.open(1), 2);
        Bounds.tells(locked, d -> d.close(0), 1);
        Bounds.tells(locked, d -> d.seek(0, 5), 0);
        Bounds.tells(locked.then(d -> d.truncate(1, 0)), d -> d.lockAt(1, 319), 2);
        Bounds.tells(locked.then(d -> d.unlink(0, 1)), d -> d.lockAt(1, 319), 2);
        Bounds.tells(locked.then(JournalDisk::flush), d -> d.lockAt(1, 319), 2);
    }

    // ---- promises 22 and 23

    private static void unlockCount() {
        // Handle 0 has the bytes 10 to 19, of which 14 and 15 for itself; handle 1 has 10 to 12.
        Scene scene = handles(2).then(d -> {
            d.lock(0, 10, 10, false);
            d.lock(0, 14, 2, true);
            d.lock(1, 10, 3, false);
        });
        int[][] rows = {
            {0, 10, 0}, {0, 11, 1}, {9, 1, 0}, {10, 1, 1}, {10, 10, 10}, {9, 12, 10}, {19, 1, 1}, {20, 1, 0},
            {19, 301, 1}, {20, 300, 0}, {13, 4, 4}, {0, 320, 10}
        };
        for (int[] row : rows) {
            Bounds.tells(scene, d -> d.unlock(0, row[0], row[1]), row[2]);
            Scene behind = scene.then(d -> d.unlock(0, row[0], row[1]));
            Bounds.tells(behind, d -> d.unlock(0, row[0], row[1]), 0);
            Bounds.tells(behind, d -> d.unlock(0, 0, 320), 10 - row[2]);
            Bounds.tells(behind, d -> d.unlock(1, 0, 320), 3);
            if (row[2] == 0) {
                Bounds.leaves(scene, d -> d.unlock(0, row[0], row[1]));
            }
        }
        // Once it is gone, another one may have it.
        Scene free = scene.then(d -> d.unlock(0, 14, 1));
        Bounds.tells(free, d -> d.lock(1, 14, 1, true), true);
        Bounds.refuses(free, d -> d.lock(1, 13, 2, true), false);
        Bounds.refuses(free, d -> d.lock(1, 14, 2, false), false);
    }

    private static void hindersSmallest() {
        // The handles 1 to 5 each have one byte SHARED, 5 the first one; handle 0 asks.
        Scene scene = handles(6).then(d -> {
            for (int h = 1; h <= 5; h++) {
                d.lock(h, 10 - h, 1, false);
            }
        });
        for (int length = 1; length <= 5; length++) {
            int many = length;
            Bounds.tells(scene, d -> d.whoHinders(0, 5, many, true), 6 - length);
            Bounds.tells(scene, d -> d.whoHinders(0, 5, many, false), -1);
        }
        Bounds.tells(scene, d -> d.whoHinders(0, 0, 5, true), -1);
        Bounds.tells(scene, d -> d.whoHinders(0, 10, 310, true), -1);
        Bounds.tells(scene, d -> d.whoHinders(1, 0, 320, true), 2);
        Bounds.tells(scene, d -> d.whoHinders(5, 0, 320, true), 1);
        Bounds.tells(scene.then(d -> d.close(1)), d -> d.whoHinders(5, 0, 320, true), 2);
        // One that hinders comes behind one that does not.
        Scene exclusive = scene.then(d -> d.lock(3, 300, 1, true));
        Bounds.tells(exclusive, d -> d.whoHinders(0, 0, 320, false), 3);
        Bounds.tells(exclusive, d -> d.whoHinders(0, 0, 300, false), -1);
        Bounds.tells(exclusive, d -> d.whoHinders(3, 0, 320, false), -1);
        // Handle 0 is the smallest one, and is told as well.
        Scene zero = handles(2).then(d -> d.lock(0, 319, 1, true));
        Bounds.tells(zero, d -> d.whoHinders(1, 0, 320, false), 0);
        Bounds.tells(zero, d -> d.whoHinders(0, 0, 320, true), -1);
    }

    private static void hindersKeeps() {
        Bounds.leaves(Scenes.USUAL, d -> d.whoHinders(1, 0, 320, true));
        Bounds.leaves(Scenes.USUAL, d -> d.whoHinders(2, 15, 5, true));
        Bounds.tells(Scenes.USUAL, d -> d.whoHinders(1, 0, 320, true), 2);
        Bounds.tells(Scenes.USUAL, d -> d.whoHinders(2, 0, 5, true), 1);
        Bounds.tells(Scenes.USUAL, d -> d.whoHinders(2, 15, 5, true), -1);
    }

    // ---- promises 24 to 28

    private static void rows() {
        JournalDisk d = handles(2).made();
        Check.is(d.lockRows(0), 0);
        d.lock(0, 0, 1, false);
        Check.is(d.lockRows(0), 1);
        d.lock(0, 2, 1, false);
        Check.is(d.lockRows(0), 2);
        d.lock(0, 1, 1, false);
        Check.is(d.lockRows(0), 1);
        d.lock(0, 1, 1, true);
        Check.is(d.lockRows(0), 3);
        d.lock(0, 2, 1, true);
        Check.is(d.lockRows(0), 2);
        d.lock(0, 318, 1, true);
        Check.is(d.lockRows(0), 3);
        d.lock(0, 319, 1, true);
        Check.is(d.lockRows(0), 3);
        d.lock(0, 319, 1, false);
        Check.is(d.lockRows(0), 4);
        d.unlock(0, 318, 1);
        Check.is(d.lockRows(0), 3);
        d.unlock(0, 319, 1);
        Check.is(d.lockRows(0), 2);
        // Those of another handle are none of its rows, and do not part them.
        d.unlock(0, 0, 320);
        d.lock(1, 5, 1, false);
        Check.is(d.lockRows(0), 0);
        d.lock(0, 0, 320, false);
        Check.is(d.lockRows(0), 1);
        Check.is(d.lockRows(1), 1);
        // As many as can be: one by one in turn.
        JournalDisk e = handles(1).made();
        for (int k = 0; k < 320; k += 2) {
            e.lock(0, k, 1, k % 4 == 0);
        }
        Check.is(e.lockRows(0), 160);
        for (int k = 1; k < 320; k += 2) {
            e.lock(0, k, 1, k % 4 == 1);
        }
        Check.is(e.lockRows(0), 160);
        Bounds.leaves(Scenes.USUAL, x -> x.lockRows(1));
    }

    private static void lockAtPlace() {
        Bounds.range(Scenes.USUAL, 0, 319, (d, x) -> d.lockAt(1, x), x -> x < 15 ? 1 : x == 319 ? 2 : 0);
        for (int node : new int[] {0, 2, 4, 6}) {
            Bounds.range(Scenes.USUAL, 0, 319, (d, x) -> d.lockAt(node, x), x -> 0);
        }
        Bounds.leaves(Scenes.USUAL, d -> d.lockAt(1, 20));
    }

    private static void lockAtKinds() {
        // In USUAL handle 1 has 0 to 9 SHARED and 20 to 24 EXCLUSIVE, handle 2 has 5 to 14 SHARED.
        JournalDisk d = Scenes.USUAL.made();
        for (int place = 0; place < 320; place++) {
            int due = place < 15 ? 1 : place >= 20 && place < 25 || place == 319 ? 2 : 0;
            Check.is(d.lockAt(1, place), due);
        }
        // The number of a removed file that another one gets has no locks of the former.
        JournalDisk e = handles(1).made();
        e.lock(0, 0, 320, true);
        e.unlink(0, 1);
        e.close(0);
        Check.is(e.makeFile(0, 1), 1);
        Check.is(e.lockAt(1, 0), 0);
        e.open(2);
        Check.is(e.lockAt(1, 0), 0);
        Check.is(e.lockRows(0), 0);
    }

    private static void nodeOfHandle() {
        int[] due = {6, 1, 1, -1, 3};
        for (int h = 0; h < due.length; h++) {
            int handle = h;
            if (due[h] >= 0) {
                Bounds.tells(Scenes.USUAL, d -> d.nodeOf(handle), due[h]);
                Bounds.leaves(Scenes.USUAL, d -> d.nodeOf(handle));
            }
        }
        // The name that was moved or taken does not matter.
        Bounds.tells(Scenes.USUAL.then(d -> d.exchange(0, 10, 2, 30)), d -> d.nodeOf(1), 1);
        Bounds.tells(Scenes.USUAL.then(d -> d.unlink(0, 10)), d -> d.nodeOf(1), 1);
    }

    private static void positions() {
        int[] due = {9, 7, 0, -1, 45};
        for (int h = 0; h < due.length; h++) {
            int handle = h;
            if (due[h] >= 0) {
                Bounds.tells(Scenes.USUAL, d -> d.positionOf(handle), due[h]);
                Bounds.leaves(Scenes.USUAL, d -> d.positionOf(handle));
            }
        }
        // A shorter file leaves the POSITION behind its SIZE.
        Bounds.tells(Scenes.USUAL.then(d -> d.truncate(3, 0)), d -> d.positionOf(4), 45);
        Bounds.tells(handles(1).then(d -> d.seek(0, 320)), d -> d.positionOf(0), 320);
    }

    private static void handleCount() {
        for (int many = 0; many <= 6; many++) {
            Bounds.tells(handles(many), JournalDisk::handles, many);
        }
        Bounds.tells(handles(6).then(d -> d.open(1)), JournalDisk::handles, 6);
        Bounds.tells(handles(6).then(d -> d.close(5)), JournalDisk::handles, 5);
        Bounds.tells(handles(6).then(JournalDisk::cut).then(JournalDisk::mount), JournalDisk::handles, 0);
        Bounds.leaves(Scenes.USUAL, JournalDisk::handles);
    }
}
