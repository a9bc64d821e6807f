/** Promises 39 to 58: nodes, asked. */
public final class NodesTest {
    public static void main(String[] args) {
        Check.test("promise 39: nodes", NodesTest::nodes);
        Check.test("promise 40: typeOf", NodesTest::typeOf);
        Check.test("promise 41: linksOf", NodesTest::linksOf);
        Check.test("promise 42: ownerOf", NodesTest::ownerOf);
        Check.test("promise 43: sizeOf", NodesTest::sizeOf);
        Check.test("promise 44: blocksOf", NodesTest::blocksOf);
        Check.test("promise 45: sharedOf", NodesTest::sharedOf);
        Check.test("promise 46: byteAt", NodesTest::byteAt);
        Check.test("promise 47: isHole", NodesTest::isHole);
        Check.test("promise 48: nextData", NodesTest::nextData);
        Check.test("promise 49: nextHole", NodesTest::nextHole);
        Check.test("promise 50: sameBytes", NodesTest::sameBytes);
        Check.test("promise 51: lookup", NodesTest::lookup);
        Check.test("promise 52: follow", NodesTest::follow);
        Check.test("promise 52: follow, links that lead on", NodesTest::followOn);
        Check.test("promise 52: follow, the ninth link", NodesTest::followNinth);
        Check.test("promise 53: nameAt", NodesTest::nameAt);
        Check.test("promise 54: parentOf", NodesTest::parentOf);
        Check.test("promise 55: depthOf", NodesTest::depthOf);
        Check.test("promise 56: isOrphan", NodesTest::isOrphan);
        Check.test("promise 57: blocksUnder", NodesTest::blocksUnder);
        Check.test("promise 58: wouldFree", NodesTest::wouldFree);
        Check.end();
    }

    /** File 1 of 40 bytes, folder 2 with file 3 (4 bytes) and link 4 to file 1, file 5 open and without a name. */
    private static JournalDisk some() {
        JournalDisk d = new JournalDisk();
        Given.file(d, 0, 10, 40);
        d.makeFolder(0, 20);
        Given.file(d, 2, 30, 4);
        d.makeLink(2, 40, 1, 10, 0);
        Given.file(d, 0, 50, 16);
        d.open(5);
        d.unlink(0, 50);
        return d;
    }

    interface Asked {
        Object of(JournalDisk disk, int node);
    }

    /** That numbers without a node are told, and that it is DOWN ahead of that. */
    private static void noNode(Asked call) {
        JournalDisk d = some();
        int[] none = {-1, 6, 31, 32, 33, 64, Integer.MAX_VALUE, Integer.MIN_VALUE};
        for (int node : none) {
            Check.index(() -> call.of(d, node));
        }
        Check.down(x -> call.of(x, 0));
        Check.down(x -> call.of(x, 40));
    }

    private static void nodes() {
        Check.is(new JournalDisk().nodes(), 1);
        JournalDisk d = some();
        Check.is(d.nodes(), 6);
        d.close(0);
        Check.is(d.nodes(), 5);
        Check.is(Given.crowded().nodes(), 32);
        Check.down(x -> x.nodes());
    }

    private static void typeOf() {
        JournalDisk d = some();
        Check.is(d.typeOf(0), 2);
        Check.is(d.typeOf(1), 1);
        Check.is(d.typeOf(2), 2);
        Check.is(d.typeOf(4), 3);
        Check.is(d.typeOf(5), 1);
        Check.is(d.typeOf(6), 0);
        Check.is(d.typeOf(-1), 0);
        Check.is(d.typeOf(32), 0);
        Check.is(d.typeOf(Integer.MIN_VALUE), 0);
        Check.down(x -> x.typeOf(0));
    }

    private static void linksOf() {
        JournalDisk d = some();
        d.addName(2, 1, 1);
        Check.is(d.linksOf(0), 0);
        Check.is(d.linksOf(1), 2);
        Check.is(d.linksOf(2), 1);
        Check.is(d.linksOf(4), 1);
        Check.is(d.linksOf(5), 0);
        noNode(JournalDisk::linksOf);
    }

    private static void ownerOf() {
        JournalDisk d = some();
        d.setOwner(2, 3);
        Check.is(d.ownerOf(2), 3);
        Check.is(d.ownerOf(3), 0);
        Check.is(d.makeFile(2, 9), 6);
        Check.is(d.ownerOf(6), 3);
        d.setOwner(2, 1);
        d.rename(2, 9, 0, 9);
        Check.is(d.ownerOf(6), 3);
        d.unlink(0, 9);
        Check.is(d.makeLink(0, 9, 0, 0, 0), 6);
        Check.is(d.ownerOf(6), 0);
        noNode(JournalDisk::ownerOf);
    }

    private static void sizeOf() {
        JournalDisk d = some();
        Check.is(d.sizeOf(0), 2);
        Check.is(d.sizeOf(1), 40);
        Check.is(d.sizeOf(2), 2);
        Check.is(d.sizeOf(4), 1);
        Check.is(d.makeLink(0, 1, 0, 1, 2), 6);
        Check.is(d.sizeOf(6), 2);
        d.unlink(0, 1);
        Check.is(d.makeFile(0, 1), 6);
        Check.is(d.sizeOf(6), 0);
        noNode(JournalDisk::sizeOf);
    }

    private static void blocksOf() {
        JournalDisk d = some();
        Check.is(d.blocksOf(0), 1);
        Check.is(d.blocksOf(1), 3);
        Check.is(d.blocksOf(4), 0);
        d.punch(1, 1);
        Check.is(d.blocksOf(1), 2);
        JournalDisk e = new JournalDisk();
        int[] taken = {0, 1, 1, 1, 1, 2, 2, 2, 2, 3, 3, 3, 3};
        for (int k = 0; k <= 12; k++) {
            Check.is(e.blocksOf(0), taken[k]);
            Check.is(e.used(), taken[k]);
            e.makeFile(0, 1 + k);
        }
        noNode(JournalDisk::blocksOf);
    }

    private static void sharedOf() {
        JournalDisk d = some();
        Check.is(d.sharedOf(1), 0);
        Check.is(d.cloneFile(2, 1, 1), 6);
        Check.is(d.cloneFile(2, 2, 1), 7);
        Check.is(d.sharedOf(1), 3);
        d.punch(6, 0);
        Check.is(d.sharedOf(6), 2);
        Check.is(d.sharedOf(1), 3);
        d.punch(7, 0);
        Check.is(d.sharedOf(1), 2);
        d.open(6);
        d.unlink(2, 1);
        d.unlink(2, 2);
        Check.is(d.sharedOf(1), 2);
        Check.is(d.sharedOf(6), 2);
        d.close(1);
        Check.is(d.sharedOf(1), 0);
        Check.is(d.sharedOf(0), 0);
        Check.is(d.sharedOf(4), 0);
        noNode(JournalDisk::sharedOf);
    }

    private static void byteAt() {
        JournalDisk d = some();
        Check.is(d.byteAt(1, 0), 1);
        Check.is(d.byteAt(1, 39), 40);
        Check.is(d.byteAt(1, 40), 0);
        Check.is(d.byteAt(1, 319), 0);
        Check.is(d.byteAt(0, 5), 0);
        Check.is(d.byteAt(4, 319), 0);
        Check.is(d.byteAt(5, 15), 16);
        Check.argument(() -> d.byteAt(1, -1));
        Check.argument(() -> d.byteAt(0, 320));
        noNode((x, n) -> x.byteAt(n, 320));
    }

    private static void isHole() {
        JournalDisk d = some();
        Check.is(d.isHole(1, 0), false);
        Check.is(d.isHole(1, 2), false);
        Check.is(d.isHole(1, 3), true);
        Check.is(d.isHole(1, 19), true);
        Check.is(d.isHole(0, 0), false);
        Check.is(d.isHole(4, 0), false);
        d.punch(1, 1);
        Check.is(d.isHole(1, 1), true);
        Check.argument(() -> d.isHole(1, -1));
        Check.argument(() -> d.isHole(0, 20));
        noNode((x, n) -> x.isHole(n, 20));
    }

    private static void nextData() {
        JournalDisk d = some();
        d.truncate(1, 90);
        d.share(1, 4, 3, 0);
        Check.is(d.nextData(1, 0), 0);
        Check.is(d.nextData(1, 47), 47);
        Check.is(d.nextData(1, 48), 64);
        Check.is(d.nextData(1, 79), 79);
        Check.is(d.nextData(1, 80), -1);
        Check.is(d.nextData(1, 320), -1);
        Check.is(d.nextData(3, 3), 3);
        Check.is(d.nextData(3, 4), -1);
        Check.is(d.nextData(0, 0), -1);
        Check.is(d.nextData(4, 0), -1);
        Check.argument(() -> d.nextData(1, -1));
        Check.argument(() -> d.nextData(0, 321));
        noNode((x, n) -> x.nextData(n, 321));
    }

    private static void nextHole() {
        JournalDisk d = some();
        d.truncate(1, 90);
        d.share(1, 4, 3, 0);
        d.punch(1, 0);
        Check.is(d.nextHole(1, 0), 0);
        Check.is(d.nextHole(1, 15), 15);
        Check.is(d.nextHole(1, 16), 48);
        Check.is(d.nextHole(1, 70), 80);
        Check.is(d.nextHole(1, 89), 89);
        Check.is(d.nextHole(1, 90), -1);
        Check.is(d.nextHole(1, 320), -1);
        Check.is(d.nextHole(3, 0), 4);
        Check.is(d.nextHole(3, 3), 4);
        Check.is(d.nextHole(3, 4), -1);
        Check.is(d.nextHole(0, 0), -1);
        Check.is(d.nextHole(4, 0), -1);
        Check.argument(() -> d.nextHole(1, -1));
        Check.argument(() -> d.nextHole(0, 321));
        noNode((x, n) -> x.nextHole(n, 321));
    }

    private static void sameBytes() {
        JournalDisk d = some();
        Given.file(d, 0, 1, 40);
        Check.is(d.sameBytes(1, 6), true);
        Check.is(d.sameBytes(1, 1), true);
        Check.is(d.sameBytes(1, 3), false);
        d.punch(6, 2);
        Check.is(d.sameBytes(1, 6), false);
        d.truncate(6, 4);
        Check.is(d.sameBytes(3, 6), true);
        d.truncate(6, 5);
        Check.is(d.sameBytes(3, 6), false);
        d.truncate(6, 0);
        d.truncate(6, 20);
        Check.is(d.makeFile(0, 2), 7);
        d.open(7);
        d.seek(1, 19);
        d.write(1, 1, 0);
        Check.is(d.blocksOf(7), 1);
        Check.is(d.sameBytes(6, 7), true);
        d.seek(1, 0);
        d.write(1, 1, 1);
        Check.is(d.sameBytes(6, 7), false);
        d.seek(1, 0);
        d.write(1, 1, 0);
        Check.is(d.sameBytes(6, 7), true);
        d.seek(1, 19);
        d.write(1, 1, 1);
        Check.is(d.sameBytes(6, 7), false);
        // Without bytes a file is still no folder and no link.
        d.truncate(7, 0);
        Check.is(d.sameBytes(7, 0), false);
        Check.is(d.sameBytes(4, 7), false);
        Check.is(d.sameBytes(0, 0), false);
        Check.is(d.sameBytes(4, 4), false);
        Check.is(d.sameBytes(1, 2), false);
        Check.is(d.sameBytes(2, 1), false);
        noNode((x, n) -> x.sameBytes(n, 0));
        noNode((x, n) -> x.sameBytes(0, n));
    }

    private static void lookup() {
        JournalDisk d = some();
        Check.is(d.lookup(0, 10), 1);
        Check.is(d.lookup(2, 40), 4);
        Check.is(d.lookup(0, 50), -1);
        Check.is(d.lookup(0, 99), -1);
        Check.is(d.lookup(1, 10), -3);
        Check.is(d.lookup(4, 10), -3);
        Check.argument(() -> d.lookup(0, 0));
        Check.argument(() -> d.lookup(1, 100));
        noNode((x, n) -> x.lookup(n, 100));
    }

    private static void follow() {
        JournalDisk d = some();
        Check.is(d.follow(0, 10), 1);
        Check.is(d.follow(0, 20), 2);
        Check.is(d.follow(2, 40), 1);
        Check.is(d.follow(0, 50), -1);
        Check.is(d.follow(1, 10), -3);
        Check.is(d.follow(4, 10), -3);
        d.unlink(0, 10);
        Check.is(d.follow(2, 40), -1);
        Check.argument(() -> d.follow(0, 0));
        Check.argument(() -> d.follow(3, 100));
        noNode((x, n) -> x.follow(n, 100));
    }

    private static void followOn() {
        JournalDisk d = new JournalDisk();
        d.makeFolder(0, 1);
        d.makeFolder(1, 2);
        d.makeFolder(2, 3);
        d.makeFile(3, 4);
        d.makeFile(0, 5);
        // Folders up, without names.
        int[] up = {3, 2, 1, 0};
        for (int k = 0; k <= 3; k++) {
            d.makeLink(3, 10 + k, k, 0, 0);
            Check.is(d.follow(3, 10 + k), up[k]);
        }
        d.makeLink(3, 14, -1, 0, 0);
        Check.is(d.follow(3, 14), 0);
        d.makeLink(0, 10, 3, 5, 0);
        Check.is(d.follow(0, 10), 5);
        // Two names.
        d.makeLink(3, 15, -1, 1, 2);
        Check.is(d.follow(3, 15), 2);
        d.makeLink(3, 16, 2, 2, 3);
        Check.is(d.follow(3, 16), 3);
        // Through links: the second name is looked for where the first one leads.
        d.makeLink(0, 11, -1, 1, 2);
        d.makeLink(0, 12, 0, 11, 3);
        Check.is(d.follow(0, 12), 3);
        d.makeLink(0, 13, 0, 12, 4);
        Check.is(d.follow(0, 13), 4);
        d.makeLink(0, 14, 0, 12, 13);
        Check.is(d.follow(0, 14), 0);
        // A link is followed from the folder of the ENTRY at which it was found.
        d.makeLink(2, 6, 1, 5, 0);
        Check.is(d.follow(2, 6), -1);
        int link = d.lookup(2, 6);
        Check.is(d.addName(1, 6, link), 2);
        Check.is(d.follow(1, 6), 5);
        d.makeLink(0, 15, 0, 1, 6);
        Check.is(d.follow(0, 15), 5);
        // What fails.
        d.makeLink(0, 16, 0, 5, 4);
        Check.is(d.follow(0, 16), -3);
        d.makeLink(0, 17, 0, 16, 4);
        Check.is(d.follow(0, 17), -3);
        Check.is(d.makeLink(1, 18, 0, 9, 4) >= 0, true);
        Check.is(d.follow(1, 18), -1);
        d.makeLink(1, 19, 0, 2, 99);
        Check.is(d.follow(1, 19), -1);
    }

    private static void followNinth() {
        JournalDisk d = new JournalDisk();
        d.makeFile(0, 1);
        for (int k = 2; k <= 10; k++) {
            d.makeLink(0, k, 0, k - 1, 0);
            Check.is(d.follow(0, k), k == 10 ? -6 : 1);
        }
        d.unlink(0, 1);
        Check.is(d.follow(0, 9), -1);
        Check.is(d.follow(0, 10), -6);
        JournalDisk e = new JournalDisk();
        e.makeLink(0, 1, 0, 1, 0);
        e.makeLink(0, 2, 0, 2, 9);
        e.makeLink(0, 3, 0, 4, 4);
        e.makeLink(0, 4, 0, 0, 0);
        Check.is(e.follow(0, 1), -6);
        Check.is(e.follow(0, 2), -6);
        Check.is(e.follow(0, 3), 0);
        // Each link counts, also those that second names lead to.
        e.makeLink(0, 5, 0, 3, 3);
        Check.is(e.follow(0, 5), 0);
        e.makeLink(0, 6, 0, 5, 4);
        Check.is(e.follow(0, 6), -6);
        e.makeLink(0, 7, 0, 5, 8);
        Check.is(e.follow(0, 7), -1);
        e.makeFile(0, 8);
        Check.is(e.follow(0, 7), 8);
        // Eight links, of which seven wait with a second name.
        JournalDisk w = new JournalDisk();
        w.makeFolder(0, 50);
        int folder = 1;
        for (int k = 0; k < 8; k++) {
            folder = w.makeFolder(folder, 1);
        }
        w.makeLink(0, 1, 0, 50, 1);
        for (int k = 2; k <= 9; k++) {
            w.makeLink(0, k, 0, k - 1, 1);
            Check.is(w.follow(0, k), k == 9 ? -6 : k + 1);
        }
    }

    private static void nameAt() {
        JournalDisk d = new JournalDisk();
        int[] names = {50, 3, 99, 1, 70};
        for (int name : names) {
            d.makeFile(0, name);
        }
        int[] rising = {1, 3, 50, 70, 99};
        for (int k = 0; k < 5; k++) {
            Check.is(d.nameAt(0, k), rising[k]);
        }
        Check.is(d.nameAt(0, 5), -1);
        Check.is(d.nameAt(0, 12), -1);
        Check.is(d.nameAt(0, -1), -1);
        Check.is(d.nameAt(0, Integer.MAX_VALUE), -1);
        Check.is(d.nameAt(0, Integer.MIN_VALUE), -1);
        Check.is(d.nameAt(1, 0), -1);
        d.unlink(0, 3);
        Check.is(d.nameAt(0, 1), 50);
        Check.is(d.nameAt(0, 4), -1);
        d.rename(0, 99, 0, 2);
        Check.is(d.nameAt(0, 1), 2);
        Check.is(Given.twelve().nameAt(1, 11), 22);
        noNode((x, n) -> x.nameAt(n, 0));
    }

    private static void parentOf() {
        JournalDisk d = some();
        Check.is(d.makeFolder(2, 1), 6);
        Check.is(d.parentOf(0), 0);
        Check.is(d.parentOf(2), 0);
        Check.is(d.parentOf(6), 2);
        Check.is(d.parentOf(1), -1);
        Check.is(d.parentOf(4), -1);
        Check.is(d.parentOf(5), -1);
        noNode(JournalDisk::parentOf);
    }

    private static void depthOf() {
        JournalDisk d = new JournalDisk();
        for (int k = 0; k < 31; k++) {
            Check.is(d.depthOf(k), k);
            Check.is(d.makeFolder(k, 1), k + 1);
        }
        Check.is(d.depthOf(31), 31);
        Check.is(d.rename(20, 1, 0, 2), 21);
        Check.is(d.depthOf(21), 1);
        Check.is(d.depthOf(31), 11);
        JournalDisk e = some();
        Check.is(e.depthOf(1), -1);
        Check.is(e.depthOf(4), -1);
        noNode(JournalDisk::depthOf);
    }

    private static void isOrphan() {
        JournalDisk d = some();
        Check.is(d.isOrphan(5), true);
        Check.is(d.isOrphan(1), false);
        Check.is(d.isOrphan(0), false);
        Check.is(d.isOrphan(2), false);
        Check.is(d.isOrphan(4), false);
        d.open(1);
        Check.is(d.isOrphan(1), false);
        d.addName(0, 11, 1);
        d.unlink(0, 10);
        Check.is(d.isOrphan(1), false);
        d.unlink(0, 11);
        Check.is(d.isOrphan(1), true);
        noNode(JournalDisk::isOrphan);
    }

    private static void blocksUnder() {
        JournalDisk d = some();
        Check.is(d.blocksUnder(0), 6);
        Check.is(d.blocksUnder(1), 3);
        Check.is(d.blocksUnder(2), 2);
        Check.is(d.blocksUnder(4), 0);
        Check.is(d.blocksUnder(5), 1);
        d.cloneFile(2, 1, 1);
        Check.is(d.blocksUnder(0), 6);
        Check.is(d.blocksUnder(2), 5);
        d.cloneFile(2, 2, 6);
        d.addName(2, 3, 1);
        Check.is(d.blocksUnder(2), 6);
        d.makeFolder(2, 50);
        Check.is(d.blocksUnder(8), 0);
        d.rename(2, 1, 8, 1);
        Check.is(d.blocksUnder(8), 4);
        d.unlink(2, 2);
        d.unlink(2, 3);
        Check.is(d.blocksUnder(2), 6);
        Check.is(d.blocksUnder(0), 7);
        noNode(JournalDisk::blocksUnder);
    }

    private static void wouldFree() {
        JournalDisk d = some();
        Check.is(d.used(), 7);
        Check.is(d.wouldFree(0), 6);
        Check.is(d.wouldFree(1), 3);
        Check.is(d.wouldFree(2), 2);
        Check.is(d.wouldFree(4), 0);
        Check.is(d.wouldFree(5), 1);
        // What is shared stays with those that stay.
        d.cloneFile(2, 1, 1);
        Check.is(d.wouldFree(1), 0);
        Check.is(d.wouldFree(2), 2);
        Check.is(d.wouldFree(0), 6);
        d.share(1, 0, 5, 0);
        Check.is(d.wouldFree(0), 6);
        Check.is(d.wouldFree(5), 0);
        // The last ENTRY of a folder, and the fifth one, free a BLOCK of it.
        d.sync();
        JournalDisk e = new JournalDisk();
        e.makeFile(0, 1);
        Check.is(e.wouldFree(1), 1);
        e.makeFolder(0, 2);
        e.makeFile(0, 3);
        e.makeFile(0, 4);
        Check.is(e.wouldFree(1), 0);
        Check.is(e.addName(0, 5, 1), 2);
        Check.is(e.wouldFree(1), 1);
        Check.is(e.wouldFree(3), 1);
        Check.is(e.makeFile(2, 1), 5);
        Check.is(e.wouldFree(2), 2);
        e.addName(0, 6, 5);
        Check.is(e.wouldFree(5), 1);
        Check.is(e.wouldFree(3), 0);
        Check.is(e.wouldFree(2), 2);
        Check.is(e.wouldFree(0), 3);
        // A file open somewhere goes as well, when its folder goes.
        e.open(5);
        Check.is(e.wouldFree(2), 2);
        noNode(JournalDisk::wouldFree);
    }
}
