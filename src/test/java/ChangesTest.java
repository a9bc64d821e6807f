/** Promises 1 to 16: a new object, and the changes. */
public final class ChangesTest {
    public static void main(String[] args) {
        Check.test("promise 1: a new object", ChangesTest::newObject);
        Check.test("promise 2: makeFile", ChangesTest::makeFile);
        Check.test("promise 3: makeFolder", ChangesTest::makeFolder);
        Check.test("promise 4: makeLink", ChangesTest::makeLink);
        Check.test("promise 5: cloneFile", ChangesTest::cloneFile);
        Check.test("promise 6: addName", ChangesTest::addName);
        Check.test("promise 7: unlink", ChangesTest::unlink);
        Check.test("promise 8: removeFolder", ChangesTest::removeFolder);
        Check.test("promise 9: rename", ChangesTest::rename);
        Check.test("promise 9: rename, replacing", ChangesTest::renameReplacing);
        Check.test("promise 9: rename, hindered", ChangesTest::renameHindered);
        Check.test("promise 10: exchange", ChangesTest::exchange);
        Check.test("promise 11: write", ChangesTest::write);
        Check.test("promise 11: write, hindered", ChangesTest::writeHindered);
        Check.test("promise 12: truncate", ChangesTest::truncate);
        Check.test("promise 13: punch", ChangesTest::punch);
        Check.test("promise 14: share", ChangesTest::share);
        Check.test("promise 14: share, hindered", ChangesTest::shareHindered);
        Check.test("promise 15: setOwner", ChangesTest::setOwner);
        Check.test("promise 16: setQuota", ChangesTest::setQuota);
        Check.test("point 4: what every change tells when the power falls", ChangesTest::powerFalls);
        Check.end();
    }

    private static void newObject() {
        JournalDisk d = new JournalDisk();
        Check.is(d.isDown(), false);
        Check.is(d.nodes(), 1);
        Check.is(d.typeOf(0), 2);
        Check.is(d.sizeOf(0), 0);
        Check.is(d.ownerOf(0), 0);
        Check.is(d.linksOf(0), 0);
        Check.is(d.parentOf(0), 0);
        Check.is(d.used(), 0);
        Check.is(d.waiting(), 0);
        Check.is(d.changes(), 0);
        Check.is(d.mounts(), 0);
        Check.is(d.handles(), 0);
        for (int user = 0; user < 4; user++) {
            Check.is(d.quotaOf(user), 120);
            Check.is(d.usedBy(user), 0);
        }
        d.cut();
        Check.is(d.mount(), 0);
        Check.is(d.nodes(), 1);
        Check.is(d.typeOf(0), 2);
    }

    private static void makeFile() {
        JournalDisk d = new JournalDisk();
        Check.is(d.makeFile(0, 99), 1);
        Check.is(d.makeFile(0, 1), 2);
        Check.is(d.typeOf(1), 1);
        Check.is(d.sizeOf(1), 0);
        Check.is(d.blocksOf(1), 0);
        Check.is(d.linksOf(1), 1);
        Check.is(d.lookup(0, 99), 1);
        Check.is(d.changes(), 2);
        Check.is(d.waiting(), 2);
        Given.fill(d, 1, 20);
        d.setOwner(1, 3);
        d.unlink(0, 99);
        Check.is(d.makeFile(0, 5), 1);
        Check.is(d.sizeOf(1), 0);
        Check.is(d.blocksOf(1), 0);
        Check.is(d.ownerOf(1), 0);
        Check.is(d.linksOf(1), 1);
        Check.keeps(d, () -> Check.is(d.makeFile(1, 7), -3));
        Check.keeps(d, () -> Check.is(d.makeFile(0, 5), -2));
        Check.keeps(d, () -> Check.argument(() -> d.makeFile(0, 0)));
        Check.argument(() -> d.makeFile(0, 100));
        Check.argument(() -> d.makeFile(1, 100));
        Check.index(() -> d.makeFile(3, 0));
        Check.index(() -> d.makeFile(-1, 1));
        Check.index(() -> d.makeFile(32, 1));
        Check.index(() -> d.makeFile(Integer.MAX_VALUE, 1));
        Check.down(x -> x.makeFile(40, 0));
        makeHindered((disk, folder, name) -> disk.makeFile(folder, name));
    }

    interface Maker {
        int make(JournalDisk disk, int folder, int name);
    }

    /** What hinders all four methods that make a node, in its order. */
    private static void makeHindered(Maker maker) {
        JournalDisk t = Given.twelve();
        Check.is(maker.make(t, 1, 11), -2);
        Check.keeps(t, () -> Check.is(maker.make(t, 1, 30), -5));
        Check.is(maker.make(t, 0, 30), 14);
        JournalDisk c = Given.crowded();
        Check.is(c.nodes(), 32);
        Check.is(maker.make(c, 2, 10), -2);
        Check.is(maker.make(c, 3, 10), -3);
        Check.keeps(c, () -> Check.is(maker.make(c, 2, 30), -5));
        c.unlink(0, 12);
        Check.is(maker.make(c, 2, 30), 9);
        JournalDisk f = Given.full();
        Check.is(f.used(), 120);
        Check.is(maker.make(f, 0, 7) >= 0, true);
        Check.is(maker.make(f, 0, 8) >= 0, true);
        Check.keeps(f, () -> Check.is(maker.make(f, 0, 9), -7));
        Check.is(f.setQuota(0, 5), 120);
        Check.is(maker.make(f, 0, 9), -7);
        Check.is(maker.make(f, 0, 1), -2);
        f.punch(1, 0);
        Check.keeps(f, () -> Check.is(maker.make(f, 0, 9), -8));
        f.setQuota(0, 119);
        Check.keeps(f, () -> Check.is(maker.make(f, 0, 9), -8));
        f.setQuota(0, 120);
        Check.is(maker.make(f, 0, 9) >= 0, true);
        Check.is(f.used(), 120);
    }

    private static void makeFolder() {
        JournalDisk d = new JournalDisk();
        Check.is(d.makeFolder(0, 50), 1);
        Check.is(d.makeFolder(1, 50), 2);
        Check.is(d.typeOf(2), 2);
        Check.is(d.sizeOf(2), 0);
        Check.is(d.blocksOf(2), 0);
        Check.is(d.parentOf(2), 1);
        Check.is(d.linksOf(2), 1);
        Check.is(d.used(), 2);
        d.setOwner(1, 3);
        Check.is(d.makeFolder(1, 51), 3);
        Check.is(d.ownerOf(3), 3);
        Check.is(d.ownerOf(2), 0);
        d.makeFile(0, 9);
        Check.is(d.makeFolder(4, 1), -3);
        Check.is(d.makeFolder(0, 9), -2);
        Check.argument(() -> d.makeFolder(0, 0));
        Check.argument(() -> d.makeFolder(4, 100));
        Check.index(() -> d.makeFolder(5, 0));
        Check.index(() -> d.makeFolder(-1, 1));
        Check.down(x -> x.makeFolder(40, 0));
        makeHindered((disk, folder, name) -> disk.makeFolder(folder, name));
    }

    private static void makeLink() {
        JournalDisk d = new JournalDisk();
        Check.is(d.makeLink(0, 1, 0, 0, 0), 1);
        Check.is(d.makeLink(0, 2, 3, 99, 0), 2);
        Check.is(d.makeLink(0, 3, -1, 99, 99), 3);
        Check.is(d.typeOf(1), 3);
        Check.is(d.sizeOf(1), 0);
        Check.is(d.sizeOf(2), 1);
        Check.is(d.sizeOf(3), 2);
        Check.is(d.linksOf(3), 1);
        Check.is(d.blocksOf(3), 0);
        Check.is(d.used(), 1);
        Check.is(d.makeLink(1, 1, 0, 0, 0), -3);
        Check.is(d.makeLink(0, 1, 0, 0, 0), -2);
        Check.argument(() -> d.makeLink(0, 0, 0, 0, 0));
        Check.argument(() -> d.makeLink(0, 100, 0, 0, 0));
        Check.argument(() -> d.makeLink(0, 9, -2, 0, 0));
        Check.argument(() -> d.makeLink(0, 9, 4, 0, 0));
        Check.argument(() -> d.makeLink(0, 9, 0, -1, 0));
        Check.argument(() -> d.makeLink(0, 9, 0, 100, 0));
        Check.argument(() -> d.makeLink(0, 9, 0, 1, -1));
        Check.argument(() -> d.makeLink(0, 9, 0, 1, 100));
        Check.argument(() -> d.makeLink(0, 9, 0, 0, 1));
        Check.argument(() -> d.makeLink(0, 9, 0, 0, -1));
        Check.argument(() -> d.makeLink(1, 1, 4, 0, 0));
        Check.index(() -> d.makeLink(9, 0, 9, 0, 0));
        Check.down(x -> x.makeLink(40, 0, 9, 0, 0));
        makeHindered((disk, folder, name) -> disk.makeLink(folder, name, 0, 0, 0));
    }

    private static void cloneFile() {
        JournalDisk d = new JournalDisk();
        Given.file(d, 0, 1, 20);
        d.makeFolder(0, 2);
        d.setOwner(2, 1);
        Check.is(d.cloneFile(2, 7, 1), 3);
        Check.is(d.sizeOf(3), 20);
        Check.is(d.blocksOf(3), 2);
        Check.is(d.sharedOf(3), 2);
        Check.is(d.sharedOf(1), 2);
        Check.is(d.ownerOf(3), 1);
        Check.is(d.linksOf(3), 1);
        Check.is(d.sameBytes(1, 3), true);
        Check.is(d.used(), 4);
        Check.is(d.usedBy(1), 3);
        Check.is(d.open(3), 0);
        d.write(0, 1, 200);
        Check.is(d.byteAt(1, 0), 1);
        Check.is(d.byteAt(3, 0), 200);
        Check.is(d.byteAt(3, 1), 2);
        Check.is(d.sharedOf(1), 1);
        Check.is(d.used(), 5);
        Check.is(d.unlink(2, 7), 0);
        Check.is(d.cloneFile(0, 8, 3), 4);
        Check.is(d.byteAt(4, 0), 200);
        Check.is(d.cloneFile(0, 9, 2), -3);
        Check.is(d.cloneFile(1, 9, 1), -3);
        Check.is(d.cloneFile(0, 1, 2), -3);
        Check.is(d.cloneFile(0, 1, 1), -2);
        Check.argument(() -> d.cloneFile(0, 0, 1));
        Check.argument(() -> d.cloneFile(1, 100, 2));
        Check.index(() -> d.cloneFile(0, 0, 9));
        Check.index(() -> d.cloneFile(9, 0, 1));
        Check.down(x -> x.cloneFile(40, 0, 40));
        d.setQuota(0, 5);
        Check.is(d.usedBy(0), 5);
        Check.keeps(d, () -> Check.is(d.cloneFile(0, 10, 1), -8));
        Check.is(d.cloneFile(2, 10, 1), 5);
        makeHindered((disk, folder, name) -> {
            int file = -1;
            for (int n = 0; n < 32; n++) {
                if (disk.typeOf(n) == 1 && disk.blocksOf(n) == 0) {
                    file = n;
                }
            }
            // Without an empty file at hand a new one does as well.
            return file < 0 ? disk.typeOf(folder) == 2 ? disk.makeFile(folder, name) : -3
                    : disk.cloneFile(folder, name, file);
        });
        JournalDisk t = Given.twelve();
        t.makeFile(0, 50);
        Check.is(t.cloneFile(1, 11, 14), -2);
        Check.is(t.cloneFile(1, 50, 14), -5);
    }

    private static void addName() {
        JournalDisk d = new JournalDisk();
        d.makeFile(0, 1);
        d.makeLink(0, 2, 0, 1, 0);
        d.makeFolder(0, 3);
        Check.is(d.addName(3, 1, 1), 2);
        Check.is(d.addName(0, 20, 1), 3);
        Check.is(d.addName(3, 2, 2), 2);
        Check.is(d.lookup(3, 1), 1);
        Check.is(d.lookup(0, 20), 1);
        Check.is(d.linksOf(1), 3);
        Check.is(d.used(), 2);
        Check.is(d.nodes(), 4);
        Check.is(d.addName(0, 21, 1), 4);
        Check.is(d.addName(0, 22, 1), 5);
        Check.is(d.addName(0, 23, 1), 6);
        Check.keeps(d, () -> Check.is(d.addName(0, 24, 1), -5));
        Check.is(d.addName(0, 23, 1), -2);
        Check.is(d.addName(0, 24, 3), -3);
        Check.is(d.addName(0, 24, 0), -3);
        Check.is(d.addName(1, 24, 2), -3);
        d.makeFile(3, 9);
        d.open(4);
        d.unlink(3, 9);
        Check.keeps(d, () -> Check.is(d.addName(0, 24, 4), -1));
        Check.is(d.addName(0, 1, 4), -1);
        Check.is(d.addName(1, 1, 4), -3);
        Check.argument(() -> d.addName(0, 0, 1));
        Check.argument(() -> d.addName(1, 100, 4));
        Check.index(() -> d.addName(9, 0, 1));
        Check.index(() -> d.addName(0, 0, 9));
        Check.down(x -> x.addName(40, 0, 40));
        JournalDisk t = Given.twelve();
        Check.is(t.addName(1, 11, 2), -2);
        Check.keeps(t, () -> Check.is(t.addName(1, 50, 2), -5));
        Check.is(t.addName(0, 50, 2), 2);
        JournalDisk f = Given.full();
        Check.is(f.addName(0, 11, 1), 2);
        Check.is(f.addName(0, 12, 1), 3);
        Check.keeps(f, () -> Check.is(f.addName(0, 13, 1), -7));
        f.punch(1, 1);
        f.setQuota(0, 1);
        Check.keeps(f, () -> Check.is(f.addName(0, 13, 1), -8));
        f.setQuota(0, 120);
        Check.is(f.addName(0, 13, 1), 4);
    }

    private static void unlink() {
        JournalDisk d = new JournalDisk();
        Given.file(d, 0, 1, 40);
        d.addName(0, 2, 1);
        d.makeFolder(0, 3);
        d.makeLink(0, 4, 0, 3, 0);
        d.sync();
        Check.is(d.unlink(0, 1), 1);
        Check.is(d.lookup(0, 1), -1);
        Check.is(d.typeOf(1), 1);
        Check.is(d.used(), 4);
        Check.is(d.unlink(0, 2), 0);
        Check.is(d.typeOf(1), 0);
        Check.is(d.used(), 1);
        Check.is(d.unlink(0, 4), 0);
        Check.is(d.typeOf(3), 0);
        Check.is(d.waiting(), 3);
        Check.is(d.makeFile(0, 5), 1);
        Check.is(d.open(1), 0);
        Check.is(d.unlink(0, 5), 0);
        Check.is(d.typeOf(1), 1);
        Check.is(d.isOrphan(1), true);
        Check.is(d.changes(), 10);
        Check.keeps(d, () -> Check.is(d.unlink(0, 3), -3));
        Check.keeps(d, () -> Check.is(d.unlink(0, 9), -1));
        Check.is(d.unlink(1, 3), -3);
        Check.argument(() -> d.unlink(0, 0));
        Check.argument(() -> d.unlink(1, 100));
        Check.index(() -> d.unlink(7, 0));
        Check.down(x -> x.unlink(40, 0));
    }

    private static void removeFolder() {
        JournalDisk d = new JournalDisk();
        d.makeFolder(0, 1);
        d.makeFolder(1, 2);
        d.makeFile(0, 3);
        Check.keeps(d, () -> Check.is(d.removeFolder(0, 1), -4));
        Check.is(d.removeFolder(1, 2), 2);
        Check.is(d.typeOf(2), 0);
        Check.is(d.sizeOf(1), 0);
        Check.is(d.used(), 1);
        Check.is(d.removeFolder(0, 1), 1);
        Check.is(d.typeOf(1), 0);
        Check.is(d.lookup(0, 1), -1);
        Check.is(d.changes(), 5);
        Check.keeps(d, () -> Check.is(d.removeFolder(0, 3), -3));
        Check.is(d.removeFolder(0, 1), -1);
        Check.is(d.removeFolder(3, 1), -3);
        Check.argument(() -> d.removeFolder(0, 0));
        Check.argument(() -> d.removeFolder(3, 100));
        Check.index(() -> d.removeFolder(1, 0));
        Check.down(x -> x.removeFolder(40, 0));
    }

    private static void rename() {
        JournalDisk d = new JournalDisk();
        d.makeFolder(0, 1);
        d.makeFolder(1, 2);
        d.makeFile(2, 3);
        Check.is(d.rename(2, 3, 2, 9), 3);
        Check.is(d.lookup(2, 3), -1);
        Check.is(d.lookup(2, 9), 3);
        Check.is(d.sizeOf(2), 1);
        Check.is(d.rename(2, 9, 0, 9), 3);
        Check.is(d.sizeOf(2), 0);
        Check.is(d.linksOf(3), 1);
        Check.is(d.rename(1, 2, 0, 2), 2);
        Check.is(d.parentOf(2), 0);
        Check.is(d.sizeOf(1), 0);
        Check.is(d.used(), 1);
        Check.is(d.changes(), 6);
        Check.is(d.rename(0, 2, 0, 2), 2);
        Check.is(d.changes(), 7);
        d.addName(1, 7, 3);
        Check.is(d.rename(0, 9, 1, 7), 3);
        Check.is(d.linksOf(3), 2);
        Check.is(d.lookup(0, 9), 3);
        Check.is(d.lookup(1, 7), 3);
        Check.is(d.changes(), 9);
        Check.keeps(d, () -> Check.is(d.rename(0, 5, 1, 1), -1));
        Check.is(d.rename(0, 1, 3, 1), -3);
        Check.is(d.rename(3, 1, 0, 1), -3);
        Check.is(d.rename(0, 5, 3, 1), -3);
        Check.argument(() -> d.rename(0, 0, 1, 1));
        Check.argument(() -> d.rename(0, 1, 3, 100));
        Check.index(() -> d.rename(8, 0, 0, 1));
        Check.index(() -> d.rename(0, 0, 8, 0));
        Check.down(x -> x.rename(40, 0, 40, 0));
    }

    private static void renameReplacing() {
        JournalDisk d = new JournalDisk();
        d.makeFolder(0, 1);
        Given.file(d, 0, 2, 20);
        Given.file(d, 1, 3, 40);
        Check.is(d.used(), 7);
        Check.is(d.rename(0, 2, 1, 3), 2);
        Check.is(d.typeOf(3), 0);
        Check.is(d.lookup(1, 3), 2);
        Check.is(d.sizeOf(1), 1);
        Check.is(d.used(), 4);
        d.makeFile(0, 4);
        d.open(2);
        Check.is(d.rename(0, 4, 1, 3), 3);
        Check.is(d.isOrphan(2), true);
        Check.is(d.used(), 4);
        d.addName(0, 4, 3);
        d.makeLink(0, 5, 0, 0, 0);
        Check.is(d.rename(0, 5, 0, 4), 4);
        Check.is(d.linksOf(3), 1);
        Check.is(d.typeOf(4), 3);
        d.makeFolder(0, 6);
        d.makeFolder(0, 7);
        d.makeFile(5, 1);
        Check.is(d.rename(0, 6, 0, 7), 5);
        Check.is(d.typeOf(6), 0);
        Check.is(d.lookup(0, 7), 5);
        Check.is(d.lookup(5, 1), 7);
        Check.is(d.parentOf(5), 0);
    }

    private static void renameHindered() {
        JournalDisk d = new JournalDisk();
        d.makeFolder(0, 1);
        d.makeFolder(1, 2);
        d.makeFolder(2, 3);
        d.makeFile(3, 4);
        d.makeFile(0, 5);
        d.makeFolder(0, 6);
        Check.keeps(d, () -> Check.is(d.rename(0, 1, 3, 9), -6));
        Check.is(d.rename(0, 1, 1, 9), -6);
        Check.is(d.rename(0, 1, 3, 4), -6);
        Check.is(d.rename(0, 1, 1, 2), -6);
        Check.keeps(d, () -> Check.is(d.rename(0, 5, 1, 2), -3));
        Check.is(d.rename(0, 6, 0, 5), -3);
        Check.keeps(d, () -> Check.is(d.rename(0, 6, 0, 1), -4));
        Check.is(d.rename(2, 3, 1, 2), -4);
        Check.is(d.rename(0, 1, 0, 1), 1);
        JournalDisk t = Given.twelve();
        t.makeFile(0, 50);
        Check.keeps(t, () -> Check.is(t.rename(0, 50, 1, 50), -5));
        Check.is(t.rename(1, 11, 1, 50), 2);
        Check.is(t.rename(0, 50, 1, 50), 14);
        Check.is(t.sizeOf(1), 12);
        JournalDisk f = Given.full();
        f.makeFile(0, 7);
        f.makeFolder(0, 8);
        Check.is(f.used(), 120);
        Check.keeps(f, () -> Check.is(f.rename(0, 7, 8, 1), -7));
        f.setOwner(1, 1);
        f.setOwner(8, 2);
        f.setQuota(2, 0);
        Check.is(f.rename(0, 7, 8, 1), -7);
        f.punch(1, 0);
        Check.keeps(f, () -> Check.is(f.rename(0, 7, 8, 1), -8));
        f.setQuota(2, 1);
        Check.is(f.rename(0, 7, 8, 1), 7);
        Check.is(f.used(), 120);
        Check.is(f.usedBy(2), 1);
        // What the replaced node leaves is counted, and what the folder that loses the ENTRY gives back.
        Check.is(f.rename(0, 6, 8, 1), 6);
        Check.is(f.used(), 120);
        Check.is(f.usedBy(2), 1);
    }

    private static void exchange() {
        JournalDisk d = new JournalDisk();
        d.makeFolder(0, 1);
        d.makeFolder(1, 2);
        d.makeFile(2, 3);
        d.makeFolder(0, 4);
        Check.is(d.exchange(0, 4, 2, 3), 3);
        Check.is(d.lookup(0, 4), 3);
        Check.is(d.lookup(2, 3), 4);
        Check.is(d.parentOf(4), 2);
        Check.is(d.linksOf(3), 1);
        Check.is(d.linksOf(4), 1);
        Check.is(d.changes(), 5);
        Check.is(d.exchange(2, 3, 0, 4), 3);
        Check.is(d.parentOf(4), 0);
        Check.is(d.exchange(0, 1, 0, 4), 4);
        Check.is(d.lookup(0, 1), 4);
        Check.is(d.lookup(0, 4), 1);
        Check.is(d.exchange(0, 1, 0, 1), 4);
        Check.is(d.lookup(0, 1), 4);
        Check.is(d.changes(), 8);
        Check.keeps(d, () -> Check.is(d.exchange(0, 4, 2, 3), -6));
        Check.is(d.exchange(2, 3, 0, 4), -6);
        Check.is(d.exchange(0, 4, 1, 2), -6);
        Check.is(d.exchange(1, 2, 0, 4), -6);
        Check.is(d.exchange(0, 9, 0, 1), -1);
        Check.is(d.exchange(0, 1, 0, 9), -1);
        Check.is(d.exchange(0, 4, 2, 9), -1);
        Check.is(d.exchange(3, 9, 0, 1), -3);
        Check.is(d.exchange(0, 9, 3, 1), -3);
        Check.argument(() -> d.exchange(3, 0, 0, 1));
        Check.argument(() -> d.exchange(0, 1, 3, 100));
        Check.index(() -> d.exchange(0, 0, 9, 1));
        Check.index(() -> d.exchange(9, 1, 0, 0));
        Check.down(x -> x.exchange(40, 0, 40, 0));
        // The owner of a node goes with it, the BLOCKS of folders stay where they are.
        d.setOwner(4, 2);
        d.setQuota(0, 0);
        d.setQuota(2, 0);
        Check.is(d.exchange(0, 1, 2, 3), 3);
        Check.is(d.ownerOf(4), 2);
    }

    private static void write() {
        JournalDisk d = new JournalDisk();
        d.makeFile(0, 1);
        d.open(1);
        Check.is(d.write(0, 10, 250), 10);
        Check.is(d.positionOf(0), 10);
        Check.is(d.byteAt(1, 0), 250);
        Check.is(d.byteAt(1, 5), 255);
        Check.is(d.byteAt(1, 6), 0);
        Check.is(d.byteAt(1, 9), 3);
        Check.is(d.byteAt(1, 10), 0);
        Check.is(d.blocksOf(1), 1);
        d.seek(0, 15);
        Check.is(d.write(0, 2, 7), 17);
        Check.is(d.blocksOf(1), 2);
        Check.is(d.byteAt(1, 15), 7);
        Check.is(d.byteAt(1, 16), 8);
        d.seek(0, 310);
        Check.is(d.write(0, 10, 0), 320);
        Check.is(d.positionOf(0), 320);
        Check.is(d.blocksOf(1), 3);
        Check.is(d.isHole(1, 5), true);
        d.seek(0, 0);
        Check.is(d.write(0, 64, 1), 320);
        Check.is(d.byteAt(1, 63), 64);
        Check.is(d.blocksOf(1), 5);
        Check.is(d.changes(), 5);
        d.seek(0, 25);
        Check.is(d.write(0, 64, 1), 320);
        Check.is(d.blocksOf(1), 7);
        d.unlink(0, 1);
        Check.is(d.write(0, 1, 9), 320);
        Check.argument(() -> d.write(0, 0, 1));
        Check.argument(() -> d.write(0, 65, 1));
        Check.argument(() -> d.write(0, 1, -1));
        Check.argument(() -> d.write(0, 1, 256));
        Check.index(() -> d.write(1, 0, 1));
        Check.index(() -> d.write(-1, 0, 1));
        Check.index(() -> d.write(6, 1, 1));
        Check.down(x -> x.write(9, 0, 300));
    }

    private static void writeHindered() {
        JournalDisk d = Given.full();
        d.setOwner(1, 3);
        d.cloneFile(0, 7, 1);
        d.open(7);
        d.setQuota(0, 0);
        d.seek(0, 319);
        Check.is(d.write(0, 2, 0), -5);
        Check.keeps(d, () -> Check.is(d.write(0, 1, 0), -7));
        Check.is(d.positionOf(0), 319);
        d.punch(6, 0);
        Check.is(d.write(0, 1, 0), 320);
        Check.is(d.sharedOf(7), 19);
        d.punch(7, 5);
        d.seek(0, 80);
        Check.is(d.used(), 120);
        Check.is(d.write(0, 1, 0), -7);
        d.punch(6, 1);
        Check.keeps(d, () -> Check.is(d.write(0, 1, 0), -8));
        Check.is(d.positionOf(0), 80);
        d.setQuota(0, d.usedBy(0));
        Check.is(d.write(0, 1, 0), -8);
        d.setQuota(0, 120);
        d.setOwner(7, 1);
        Check.is(d.write(0, 1, 0), 320);
        Check.is(d.used(), 120);
        d.seek(0, 96);
        Check.is(d.write(0, 1, 0), -7);
        JournalDisk e = new JournalDisk();
        e.makeFile(0, 1);
        e.open(1);
        e.seek(0, 320);
        Check.is(e.write(0, 1, 0), -5);
        e.seek(0, 257);
        Check.is(e.write(0, 64, 0), -5);
        e.seek(0, 256);
        Check.is(e.write(0, 64, 0), 320);
        Check.is(e.write(0, 1, 0), -5);
    }

    private static void truncate() {
        JournalDisk d = new JournalDisk();
        Given.file(d, 0, 1, 60);
        d.cloneFile(0, 2, 1);
        Check.is(d.truncate(1, 40), 60);
        Check.is(d.sizeOf(1), 40);
        Check.is(d.blocksOf(1), 3);
        Check.is(d.sharedOf(1), 2);
        Check.is(d.byteAt(1, 39), 40);
        Check.is(d.byteAt(1, 40), 0);
        Check.is(d.byteAt(2, 40), 41);
        Check.is(d.used(), 6);
        Check.is(d.truncate(1, 60), 40);
        Check.is(d.byteAt(1, 40), 0);
        Check.is(d.byteAt(1, 50), 0);
        Check.is(d.blocksOf(1), 3);
        Check.is(d.truncate(1, 32), 60);
        Check.is(d.blocksOf(1), 2);
        Check.is(d.sharedOf(1), 2);
        Check.is(d.truncate(1, 320), 32);
        Check.is(d.truncate(1, 320), 320);
        Check.is(d.truncate(1, 100), 320);
        Check.is(d.blocksOf(1), 2);
        Check.is(d.truncate(1, 17), 100);
        Check.is(d.blocksOf(1), 2);
        Check.is(d.byteAt(1, 16), 17);
        Check.is(d.byteAt(1, 17), 0);
        Check.is(d.truncate(1, 0), 17);
        Check.is(d.blocksOf(1), 0);
        Check.is(d.sharedOf(2), 0);
        Check.is(d.changes(), 11);
        Check.is(d.truncate(0, 0), -3);
        Check.argument(() -> d.truncate(1, -1));
        Check.argument(() -> d.truncate(0, 321));
        Check.index(() -> d.truncate(3, -1));
        Check.down(x -> x.truncate(40, -1));
        JournalDisk f = Given.full();
        f.setOwner(1, 3);
        f.cloneFile(0, 7, 1);
        f.setOwner(7, 1);
        Check.is(f.used(), 120);
        Check.keeps(f, () -> Check.is(f.truncate(7, 319), -7));
        Check.is(f.truncate(7, 304), 320);
        f.punch(6, 0);
        f.setQuota(1, 0);
        Check.is(f.truncate(7, 303), 304);
        Check.is(f.used(), 120);
        Check.is(f.usedBy(1), 19);
        JournalDisk g = Given.full();
        g.setOwner(1, 3);
        g.cloneFile(0, 7, 1);
        g.open(7);
        g.punch(6, 1);
        g.seek(0, 319);
        Check.is(g.write(0, 1, 0), 320);
        Check.is(g.used(), 120);
        // The BLOCK at the last place goes, so there is one for place 18.
        Check.is(g.truncate(7, 290), 320);
        Check.is(g.used(), 120);
    }

    private static void punch() {
        JournalDisk d = new JournalDisk();
        Given.file(d, 0, 1, 40);
        d.cloneFile(0, 2, 1);
        Check.is(d.punch(1, 0), 1);
        Check.is(d.punch(1, 0), 0);
        Check.is(d.punch(1, 19), 0);
        Check.is(d.changes(), 6);
        Check.is(d.sizeOf(1), 40);
        Check.is(d.byteAt(1, 0), 0);
        Check.is(d.byteAt(2, 0), 1);
        Check.is(d.used(), 4);
        Check.is(d.sharedOf(2), 2);
        Check.is(d.punch(1, 2), 1);
        Check.is(d.sizeOf(1), 40);
        Check.is(d.punch(0, 0), -3);
        Check.argument(() -> d.punch(1, 20));
        Check.argument(() -> d.punch(0, -1));
        Check.index(() -> d.punch(3, 20));
        Check.down(x -> x.punch(40, 20));
    }

    private static void share() {
        JournalDisk d = new JournalDisk();
        Given.file(d, 0, 1, 40);
        Given.file(d, 0, 2, 64);
        Check.is(d.used(), 8);
        Check.is(d.share(2, 3, 1, 2), 1);
        Check.is(d.used(), 7);
        Check.is(d.sharedOf(1), 1);
        Check.is(d.byteAt(2, 48), 33);
        Check.is(d.byteAt(2, 56), 0);
        Check.is(d.share(2, 0, 1, 5), 0);
        Check.is(d.isHole(2, 0), true);
        Check.is(d.byteAt(2, 0), 0);
        Check.is(d.sizeOf(2), 64);
        Check.is(d.share(1, 1, 1, 1), 1);
        Check.is(d.share(2, 0, 2, 0), 0);
        Check.is(d.share(2, 3, 1, 2), 1);
        Check.is(d.changes(), 9);
        Check.is(d.used(), 6);
        d.open(2);
        d.seek(0, 48);
        d.write(0, 1, 99);
        Check.is(d.byteAt(1, 32), 33);
        Check.is(d.byteAt(2, 48), 99);
        Check.is(d.byteAt(2, 49), 34);
        Check.argument(() -> d.share(1, 20, 2, 0));
        Check.argument(() -> d.share(1, 0, 2, 20));
        Check.argument(() -> d.share(0, -1, 2, 0));
        Check.index(() -> d.share(9, 20, 1, 0));
        Check.index(() -> d.share(1, 20, 9, 0));
        Check.down(x -> x.share(40, 20, 40, 20));
    }

    private static void shareHindered() {
        JournalDisk d = new JournalDisk();
        Given.file(d, 0, 1, 40);
        Given.file(d, 0, 2, 63);
        Check.is(d.share(0, 0, 1, 0), -3);
        Check.is(d.share(1, 0, 0, 0), -3);
        Check.keeps(d, () -> Check.is(d.share(1, 0, 1, 1), -6));
        Check.is(d.share(1, 18, 1, 19), -6);
        Check.is(d.share(1, 2, 1, 2), -5);
        Check.is(d.share(1, 19, 1, 19), -5);
        Check.is(d.share(2, 3, 1, 0), -5);
        Check.is(d.share(2, 1, 1, 0), 1);
        Check.is(d.share(2, 0, 1, 0), -6);
        Check.is(d.share(2, 19, 1, 0), -6);
        Check.is(d.share(2, 19, 1, 19), -5);
        Check.is(d.share(2, 2, 1, 19), 0);
        d.setQuota(0, 1);
        Check.keeps(d, () -> Check.is(d.share(2, 2, 1, 1), -8));
        Check.is(d.share(2, 3, 1, 1), -5);
        Check.is(d.share(2, 0, 1, 1), 1);
        d.setQuota(0, 120);
        Check.is(d.share(2, 2, 1, 2), 1);
        JournalDisk f = Given.full();
        f.truncate(6, 320);
        f.setOwner(6, 1);
        Check.is(f.share(6, 19, 1, 0), 1);
        Check.is(f.used(), 120);
        Check.is(f.usedBy(1), 19);
    }

    private static void setOwner() {
        JournalDisk d = new JournalDisk();
        Given.file(d, 0, 1, 40);
        d.makeLink(0, 2, 0, 0, 0);
        Check.is(d.setOwner(1, 3), 0);
        Check.is(d.setOwner(1, 3), 3);
        Check.is(d.ownerOf(1), 3);
        Check.is(d.usedBy(3), 3);
        Check.is(d.usedBy(0), 1);
        Check.is(d.setOwner(0, 2), 0);
        Check.is(d.usedBy(2), 1);
        Check.is(d.changes(), 6);
        Check.is(d.makeFile(0, 3), 3);
        Check.is(d.ownerOf(3), 2);
        d.setQuota(1, 2);
        Check.keeps(d, () -> Check.is(d.setOwner(1, 1), -8));
        Check.is(d.setOwner(2, 1), 0);
        d.setQuota(1, 3);
        Check.is(d.setOwner(1, 1), 3);
        d.setQuota(1, 0);
        Check.is(d.setOwner(1, 1), 1);
        Check.is(d.setOwner(2, 1), 1);
        Check.is(d.setOwner(2, 0), 1);
        Check.is(d.ownerOf(2), 0);
        Check.is(d.setOwner(0, 1), -8);
        Check.argument(() -> d.setOwner(1, 4));
        Check.argument(() -> d.setOwner(0, -1));
        Check.index(() -> d.setOwner(5, 4));
        Check.down(x -> x.setOwner(40, 4));
    }

    private static void setQuota() {
        JournalDisk d = new JournalDisk();
        Given.file(d, 0, 1, 40);
        Check.is(d.setQuota(0, 0), 120);
        Check.is(d.quotaOf(0), 0);
        Check.is(d.usedBy(0), 4);
        Check.is(d.setQuota(0, 120), 0);
        Check.is(d.setQuota(3, 7), 120);
        Check.is(d.quotaOf(3), 7);
        Check.is(d.quotaOf(2), 120);
        Check.is(d.changes(), 5);
        d.sync();
        Check.is(d.setQuota(3, 8), 7);
        d.cut();
        d.mount();
        Check.is(d.quotaOf(3), 7);
        Check.argument(() -> d.setQuota(-1, 1));
        Check.argument(() -> d.setQuota(4, 1));
        Check.argument(() -> d.setQuota(0, -1));
        Check.argument(() -> d.setQuota(0, 121));
        Check.down(x -> x.setQuota(4, 121));
    }

    interface Change {
        int run(JournalDisk disk);
    }

    private static void powerFalls() {
        Change[] all = {
            d -> d.makeFile(0, 50), d -> d.makeFolder(0, 50), d -> d.makeLink(0, 50, 0, 0, 0),
            d -> d.cloneFile(0, 50, 1), d -> d.addName(0, 50, 1), d -> d.unlink(0, 1), d -> d.removeFolder(0, 2),
            d -> d.rename(0, 1, 0, 50), d -> d.exchange(0, 1, 0, 2), d -> d.write(0, 5, 5), d -> d.truncate(1, 7),
            d -> d.punch(1, 0), d -> d.share(1, 0, 1, 0), d -> d.setOwner(1, 1), d -> d.setQuota(1, 1)
        };
        for (int k = 0; k < all.length; k++) {
            for (int bytes = 31; bytes <= 32; bytes++) {
                JournalDisk d = new JournalDisk();
                Given.file(d, 0, 1, 40);
                d.makeFolder(0, 2);
                d.sync();
                d.open(1);
                for (int change = 0; change < 7; change++) {
                    d.setQuota(3, 100 + change);
                }
                d.fail(1, 1, bytes);
                Check.is(d.waiting(), 7);
                Check.is(all[k].run(d), -9);
                Check.is(d.isDown(), true);
                Check.is(d.mount(), k == 5 && bytes == 32 ? 1 : 0);
                Check.is(d.changes(), bytes == 32 ? 11 : 3);
                Check.is(d.quotaOf(3), bytes == 32 ? 106 : 120);
            }
        }
    }
}
