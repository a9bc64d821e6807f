/** Promises 39 to 58 at their edges: nodes, asked. */
public final class EdgesOfNodesTest {
    public static void main(String[] args) {
        Check.test("promise 39: 1, 2, 31, 32 nodes", EdgesOfNodesTest::nodeCount);
        Check.test("promise 40: numbers below 0 and above 31", EdgesOfNodesTest::types);
        asked("promise 39", (d, x) -> d.nodes(), false);
        asked("promise 40", JournalDisk::typeOf, false);
        asked("promise 41", JournalDisk::linksOf, true);
        asked("promise 42", JournalDisk::ownerOf, true);
        asked("promise 43", JournalDisk::sizeOf, true);
        asked("promise 44", JournalDisk::blocksOf, true);
        asked("promise 45", JournalDisk::sharedOf, true);
        asked("promise 46", (d, x) -> d.byteAt(x, wrongIf(d, x, 320)), true);
        asked("promise 47", (d, x) -> d.isHole(x, wrongIf(d, x, 20)), true);
        asked("promise 48", (d, x) -> d.nextData(x, wrongIf(d, x, 321)), true);
        asked("promise 49", (d, x) -> d.nextHole(x, wrongIf(d, x, 321)), true);
        asked("promise 50: one,", (d, x) -> d.sameBytes(x, 1), true);
        asked("promise 50: other,", (d, x) -> d.sameBytes(1, x), true);
        asked("promise 51", (d, x) -> d.lookup(x, wrongIf(d, x, 100) + 1), true);
        asked("promise 52", (d, x) -> d.follow(x, wrongIf(d, x, 100) + 1), true);
        asked("promise 53", (d, x) -> d.nameAt(x, 0), true);
        asked("promise 54", JournalDisk::parentOf, true);
        asked("promise 55", JournalDisk::depthOf, true);
        asked("promise 56", JournalDisk::isOrphan, true);
        asked("promise 57", JournalDisk::blocksUnder, true);
        asked("promise 58", JournalDisk::wouldFree, true);
        Check.test("promise 41: 0 to 6 LINKS", EdgesOfNodesTest::links);
        Check.test("promise 42: the users 0 to 3", EdgesOfNodesTest::owners);
        Check.test("promise 43: a file of 0, 1, 319, 320 bytes", EdgesOfNodesTest::fileSizes);
        Check.test("promise 43: a folder of 0 to 12 ENTRIES", EdgesOfNodesTest::folderSizes);
        Check.test("promise 43: a link of 0, 1, 2 names", EdgesOfNodesTest::linkSizes);
        Check.test("promise 44: at 0 to 20 places", EdgesOfNodesTest::fileBlocks);
        Check.test("promise 44: of a folder, of a link", EdgesOfNodesTest::otherBlocks);
        Check.test("promise 45: SHARED by 1, 2, 3 files", EdgesOfNodesTest::shared);
        Check.test("promise 46: place is 0 to 319", EdgesOfNodesTest::bytes);
        Check.test("promise 47: place is 0 to 19", EdgesOfNodesTest::holes);
        Check.test("promise 48: from is 0 to 320", EdgesOfNodesTest::dataRange);
        Check.test("promise 48: ahead of SIZE, at a place with a BLOCK", EdgesOfNodesTest::dataNext);
        Check.test("promise 49: from is 0 to 320", EdgesOfNodesTest::holeRange);
        Check.test("promise 49: a HOLE, SIZE, or -1", EdgesOfNodesTest::holeNext);
        Check.test("promise 50: the same SIZE and the same bytes", EdgesOfNodesTest::same);
        Check.test("promise 50: no file", EdgesOfNodesTest::sameNoFile);
        Check.test("promise 51: name is 1 to 99", EdgesOfNodesTest::lookupName);
        Check.test("promise 51: -1, and -3 for no folder", EdgesOfNodesTest::lookupFails);
        Check.test("promise 52: name is 1 to 99", EdgesOfNodesTest::followName);
        Check.test("promise 52: -3, -1 for the ENTRY itself", EdgesOfNodesTest::followFails);
        Check.test("promise 53: k below 0, the last one, behind it", EdgesOfNodesTest::names);
        Check.test("promise 54: of the ROOT, of folders, of others", EdgesOfNodesTest::parents);
        Check.test("promise 55: 0 to 31, and -1 of others", EdgesOfNodesTest::depths);
        Check.test("promise 56: 0 LINKS, 1 LINK, a handle", EdgesOfNodesTest::orphans);
        Check.test("promise 57: each BLOCK once", EdgesOfNodesTest::under);
        Check.test("promise 57: of no folder its own", EdgesOfNodesTest::underOthers);
        Check.test("promise 58: SHARED BLOCKS", EdgesOfNodesTest::freeShared);
        Check.test("promise 58: the fourth, fifth, sixth ENTRY", EdgesOfNodesTest::freeEntries);
        Check.test("promise 58: ENTRIES of other folders", EdgesOfNodesTest::freeOther);
        Check.test("promise 58: other ORPHANs stay", EdgesOfNodesTest::freeOrphans);
        Check.test("promise 58: as much as is freed when it is removed", EdgesOfNodesTest::freeReally);
        Check.end();
    }

    /** That a question is answered for all nodes, changes nothing, and is refused while it is DOWN. */
    private static void asked(String promise, Scene.Numbered call, boolean isNodeNeeded) {
        Check.test(promise + " it is DOWN", () -> {
            Bounds.down(d -> call.of(d, 0));
            Bounds.down(d -> call.of(d, 40));
        });
        Check.test(promise + " nothing is changed by it", () -> {
            for (int node = 0; node <= 6; node++) {
                int number = node;
                Object answer = Scene.answer(Scenes.USUAL.made(), d -> call.of(d, number));
                Check.is(String.valueOf(answer).startsWith("throws"), false);
                Bounds.leaves(Scenes.USUAL, d -> call.of(d, number));
            }
        });
        if (isNodeNeeded) {
            Check.test(promise + " there is no such node", () -> Bounds.noNode(call));
        }
    }

    /** A wrong number for a node that is not there: the node goes ahead; 0 for one that is. */
    private static int wrongIf(JournalDisk d, int node, int wrong) {
        return d.isDown() || d.typeOf(node) == 0 ? wrong : 0;
    }

    // ---- promises 39 to 42

    private static void nodeCount() {
        Bounds.tells(Scenes.EMPTY, JournalDisk::nodes, 1);
        Bounds.tells(Scenes.rootEntries(1), JournalDisk::nodes, 2);
        Bounds.tells(Scenes.nodes(31), JournalDisk::nodes, 31);
        Bounds.tells(Scenes.nodes(32), JournalDisk::nodes, 32);
        Bounds.tells(Scenes.nodes(32).then(d -> d.makeFile(0, 99)), JournalDisk::nodes, 32);
        // An ORPHAN is one, till its last handle is closed.
        Bounds.tells(Scenes.USUAL, JournalDisk::nodes, 7);
        Bounds.tells(Scenes.USUAL.then(d -> d.close(0)), JournalDisk::nodes, 6);
    }

    private static void types() {
        int[] due = {2, 1, 2, 1, 3, 1, 1, 0};
        for (int node = 0; node <= 7; node++) {
            int number = node;
            Bounds.tells(Scenes.USUAL, d -> d.typeOf(number), due[node]);
        }
        for (int node : new int[] {Integer.MIN_VALUE, -2, -1, 8, 30, 31, 32, 33, 1000, Integer.MAX_VALUE}) {
            Bounds.refuses(Scenes.USUAL, d -> d.typeOf(node), 0);
        }
        Bounds.tells(Scenes.nodes(31), d -> d.typeOf(30), 3);
        Bounds.tells(Scenes.nodes(31), d -> d.typeOf(31), 0);
        Bounds.tells(Scenes.nodes(32), d -> d.typeOf(31), 3);
        Bounds.tells(Scenes.nodes(32), d -> d.typeOf(32), 0);
    }

    private static void links() {
        JournalDisk d = new JournalDisk();
        d.makeFile(0, 1);
        d.makeFolder(0, 2);
        for (int many = 1; many <= 6; many++) {
            Check.is(d.linksOf(1), many);
            d.addName(many % 2 == 0 ? 0 : 2, 10 + many, 1);
        }
        Check.is(d.linksOf(1), 6);
        Check.is(d.linksOf(0), 0);
        Check.is(d.linksOf(2), 1);
        d.makeFolder(2, 50);
        Check.is(d.linksOf(2), 1);
        Bounds.tells(Scenes.USUAL, x -> x.linksOf(6), 0);
        Bounds.tells(Scenes.USUAL, x -> x.linksOf(4), 1);
    }

    private static void owners() {
        int[] due = {0, 0, 1, 1, 1, 1, 0};
        for (int node = 0; node <= 6; node++) {
            int number = node;
            Bounds.tells(Scenes.USUAL, d -> d.ownerOf(number), due[node]);
        }
        for (int user = 0; user <= 3; user++) {
            int owner = user;
            Bounds.tells(Scenes.USUAL.then(d -> d.setOwner(0, owner)), d -> d.ownerOf(0), user);
            // Only of this node, not of what is in it.
            Bounds.tells(Scenes.USUAL.then(d -> d.setOwner(0, owner)), d -> d.ownerOf(1), 0);
        }
    }

    // ---- promises 43 to 47

    private static void fileSizes() {
        for (int size : new int[] {0, 1, 2, 15, 16, 17, 318, 319, 320}) {
            Bounds.tells(Scenes.rootEntries(1).then(d -> d.truncate(1, size)), d -> d.sizeOf(1), size);
            Bounds.tells(Scenes.EMPTY.then(d -> Given.file(d, 0, 1, size)), d -> d.sizeOf(1), size);
        }
    }

    private static void folderSizes() {
        for (int many = 0; many <= 12; many++) {
            Bounds.tells(Scenes.entries(many), d -> d.sizeOf(2), many);
        }
        Bounds.tells(Scenes.entries(12).then(d -> d.makeFile(2, 99)), d -> d.sizeOf(2), 12);
        Bounds.tells(Scenes.entries(12).then(d -> d.unlink(2, 10)), d -> d.sizeOf(2), 11);
        Bounds.tells(Scenes.rootEntries(12), d -> d.sizeOf(0), 12);
    }

    private static void linkSizes() {
        int[][] targets = {{0, 0, 0}, {3, 0, 0}, {-1, 0, 0}, {0, 1, 0}, {-1, 99, 0}, {0, 1, 1}, {3, 99, 99}};
        int[] due = {0, 0, 0, 1, 1, 2, 2};
        for (int k = 0; k < due.length; k++) {
            int[] target = targets[k];
            Scene scene = d -> d.makeLink(0, 1, target[0], target[1], target[2]);
            Bounds.tells(scene, d -> d.sizeOf(1), due[k]);
            Bounds.tells(scene, d -> d.blocksOf(1), 0);
        }
    }

    private static void fileBlocks() {
        for (int bytes = 0; bytes <= 320; bytes += 16) {
            int size = bytes;
            Bounds.tells(Scenes.EMPTY.then(d -> Given.file(d, 0, 1, size)), d -> d.blocksOf(1), bytes / 16);
            if (bytes > 0) {
                Bounds.tells(Scenes.EMPTY.then(d -> Given.file(d, 0, 1, size - 1)), d -> d.blocksOf(1), bytes / 16);
                Bounds.tells(Scenes.EMPTY.then(d -> Given.file(d, 0, 1, size - 15)), d -> d.blocksOf(1), bytes / 16);
            }
        }
        // HOLEs are none, whatever SIZE is.
        Bounds.tells(Scenes.rootEntries(1).then(d -> d.truncate(1, 320)), d -> d.blocksOf(1), 0);
        Bounds.tells(Scenes.USUAL, d -> d.blocksOf(5), 3);
        Bounds.tells(Scenes.USUAL.then(d -> d.punch(5, 1)), d -> d.blocksOf(5), 2);
    }

    private static void otherBlocks() {
        int[] due = {0, 1, 1, 1, 1, 2, 2, 2, 2, 3, 3, 3, 3};
        for (int many = 0; many <= 12; many++) {
            Bounds.tells(Scenes.entries(many), d -> d.blocksOf(2), due[many]);
            if (many > 0) {
                Bounds.tells(Scenes.rootEntries(many), d -> d.blocksOf(0), due[many]);
            }
        }
        Bounds.tells(Scenes.EMPTY, d -> d.blocksOf(0), 0);
        Bounds.tells(Scenes.USUAL, d -> d.blocksOf(4), 0);
    }

    private static void shared() {
        Scene scene = d -> Given.file(d, 0, 1, 40);
        Bounds.tells(scene, d -> d.sharedOf(1), 0);
        Scene two = scene.then(d -> d.cloneFile(0, 2, 1));
        Scene three = two.then(d -> d.cloneFile(0, 3, 2));
        for (int node = 1; node <= 2; node++) {
            int number = node;
            Bounds.tells(two, d -> d.sharedOf(number), 3);
            Bounds.tells(three, d -> d.sharedOf(number), 3);
            Bounds.tells(three.then(d -> d.unlink(0, 3)), d -> d.sharedOf(number), 3);
            Bounds.tells(three.then(d -> d.punch(3, 0)), d -> d.sharedOf(number), 3);
            Bounds.tells(two.then(d -> d.punch(3 - number, 0)), d -> d.sharedOf(number), 2);
            Bounds.tells(two.then(d -> d.unlink(0, 3 - number)), d -> d.sharedOf(number), 0);
        }
        Bounds.tells(two.then(d -> d.punch(2, 2)).then(d -> d.punch(2, 1)), d -> d.sharedOf(1), 1);
        Bounds.tells(Scenes.USUAL, d -> d.sharedOf(0), 0);
        Bounds.tells(Scenes.USUAL, d -> d.sharedOf(2), 0);
        Bounds.tells(Scenes.USUAL, d -> d.sharedOf(4), 0);
        // An ORPHAN holds it as well.
        Scene orphan = two.then(d -> d.open(2)).then(d -> d.unlink(0, 2));
        Bounds.tells(orphan, d -> d.sharedOf(1), 3);
        Bounds.tells(orphan, d -> d.sharedOf(2), 3);
        Bounds.tells(orphan.then(d -> d.close(0)), d -> d.sharedOf(1), 0);
    }

    private static void bytes() {
        Bounds.range(Scenes.USUAL, 0, 319, (d, x) -> d.byteAt(1, x), x -> x < 40 ? x + 1 : 0);
        for (int node : new int[] {0, 2, 4}) {
            Bounds.range(Scenes.USUAL, 0, 319, (d, x) -> d.byteAt(node, x), x -> 0);
        }
        for (int place = 38; place <= 48; place++) {
            int at = place;
            Bounds.tells(Scenes.USUAL, d -> d.byteAt(1, at), place < 40 ? place + 1 : 0);
        }
        Scene whole = d -> Given.file(d, 0, 1, 320);
        Bounds.range(whole, 0, 319, (d, x) -> d.byteAt(1, x), x -> (x + 1) % 256);
        Bounds.tells(whole, d -> d.byteAt(1, 254), 255);
        Bounds.tells(whole, d -> d.byteAt(1, 255), 0);
        Bounds.refuses(whole, d -> d.byteAt(0, 320), Bounds.ARGUMENT);
    }

    private static void holes() {
        Bounds.range(Scenes.USUAL, 0, 19, (d, x) -> d.isHole(1, x), x -> x > 2);
        for (int node : new int[] {0, 2, 4}) {
            Bounds.range(Scenes.USUAL, 0, 19, (d, x) -> d.isHole(node, x), x -> false);
        }
        for (int place = 0; place < 20; place++) {
            int at = place;
            Bounds.tells(Scenes.USUAL, d -> d.isHole(1, at), place > 2);
            Bounds.tells(Scenes.USUAL, d -> d.isHole(3, at), place > 3);
        }
        // A BLOCK of zeros is no HOLE.
        Scene zeros = Scenes.rootEntries(1).then(d -> d.open(1)).then(d -> d.write(0, 1, 0));
        Bounds.tells(zeros, d -> d.isHole(1, 0), false);
        Bounds.tells(zeros, d -> d.isHole(1, 1), true);
    }

    // ---- promises 48 to 50

    /** File 1 of 100 bytes with BLOCKS at the places 1, 2 and 6, which is that of its last 4 bytes. */
    private static void gaps(JournalDisk d) {
        Given.file(d, 0, 1, 100);
        int[] punched = {0, 3, 4, 5};
        for (int place : punched) {
            d.punch(1, place);
        }
    }

    private static void dataRange() {
        Bounds.range(EdgesOfNodesTest::gaps, 0, 320, (d, x) -> d.nextData(1, x), x -> x < 2 ? 16 : -1);
        for (int node : new int[] {0, 2, 4}) {
            Bounds.range(Scenes.USUAL, 0, 320, (d, x) -> d.nextData(node, x), x -> -1);
        }
        Bounds.refuses(Scenes.USUAL, d -> d.nextData(0, 321), Bounds.ARGUMENT);
    }

    private static void dataNext() {
        Scene scene = EdgesOfNodesTest::gaps;
        for (int from = 0; from <= 320; from++) {
            int at = from;
            int due = from < 16 ? 16 : from < 48 ? from : from < 96 ? 96 : from < 100 ? from : -1;
            Bounds.tells(scene, d -> d.nextData(1, at), due);
        }
        Scene whole = d -> Given.file(d, 0, 1, 320);
        Bounds.tells(whole, d -> d.nextData(1, 319), 319);
        Bounds.tells(whole, d -> d.nextData(1, 320), -1);
        Bounds.tells(Scenes.rootEntries(1), d -> d.nextData(1, 0), -1);
        Bounds.tells(Scenes.rootEntries(1).then(d -> d.truncate(1, 320)), d -> d.nextData(1, 0), -1);
    }

    private static void holeRange() {
        Bounds.range(EdgesOfNodesTest::gaps, 0, 320, (d, x) -> d.nextHole(1, x), x -> x < 2 ? x : -1);
        for (int node : new int[] {0, 2, 4}) {
            Bounds.range(Scenes.USUAL, 0, 320, (d, x) -> d.nextHole(node, x), x -> -1);
        }
        Bounds.refuses(Scenes.USUAL, d -> d.nextHole(0, 321), Bounds.ARGUMENT);
    }

    private static void holeNext() {
        Scene scene = EdgesOfNodesTest::gaps;
        for (int from = 0; from <= 320; from++) {
            int at = from;
            int due = from < 16 ? from : from < 48 ? 48 : from < 96 ? from : from < 100 ? 100 : -1;
            Bounds.tells(scene, d -> d.nextHole(1, at), due);
        }
        Scene whole = d -> Given.file(d, 0, 1, 320);
        Bounds.tells(whole, d -> d.nextHole(1, 0), 320);
        Bounds.tells(whole, d -> d.nextHole(1, 319), 320);
        Bounds.tells(whole, d -> d.nextHole(1, 320), -1);
        Bounds.tells(Scenes.rootEntries(1), d -> d.nextHole(1, 0), -1);
        Scene hole = Scenes.rootEntries(1).then(d -> d.truncate(1, 320));
        Bounds.tells(hole, d -> d.nextHole(1, 0), 0);
        Bounds.tells(hole, d -> d.nextHole(1, 319), 319);
        Bounds.tells(hole, d -> d.nextHole(1, 320), -1);
        // What is behind SIZE is a HOLE, but not ahead of SIZE.
        for (int size = 31; size <= 33; size++) {
            int bytes = size;
            Scene sized = d -> Given.file(d, 0, 1, bytes);
            Bounds.tells(sized, d -> d.nextHole(1, 0), size);
            Bounds.tells(sized, d -> d.nextHole(1, bytes - 1), size);
            Bounds.tells(sized, d -> d.nextHole(1, bytes), -1);
        }
    }

    private static void same() {
        Scene scene = Scenes.EMPTY.then(d -> {
            Given.file(d, 0, 1, 40);
            Given.file(d, 0, 2, 40);
        });
        Bounds.tells(scene, d -> d.sameBytes(1, 2), true);
        for (int size : new int[] {39, 41}) {
            Bounds.tells(scene.then(d -> d.truncate(2, size)), d -> d.sameBytes(1, 2), false);
            Bounds.tells(scene.then(d -> d.truncate(1, size)), d -> d.sameBytes(1, 2), false);
        }
        for (int place : new int[] {0, 1, 15, 16, 38, 39}) {
            Scene other = scene.then(d -> d.open(2)).then(d -> d.seek(0, place)).then(d -> d.write(0, 1, 200));
            Bounds.tells(other, d -> d.sameBytes(1, 2), false);
            Bounds.tells(other, d -> d.sameBytes(2, 1), false);
            Bounds.tells(other, d -> d.sameBytes(2, 2), true);
        }
        // A HOLE and a BLOCK of zeros have the same bytes, two files without bytes as well.
        Scene zeros = Scenes.EMPTY.then(d -> {
            d.makeFile(0, 1);
            d.makeFile(0, 2);
            d.truncate(1, 320);
            d.truncate(2, 320);
            d.open(2);
            d.seek(0, 319);
            d.write(0, 1, 0);
        });
        Bounds.tells(zeros, d -> d.blocksOf(2), 1);
        Bounds.tells(zeros, d -> d.sameBytes(1, 2), true);
        Bounds.tells(zeros.then(d -> d.seek(0, 319)).then(d -> d.write(0, 1, 1)), d -> d.sameBytes(1, 2), false);
        Scene none = zeros.then(d -> d.truncate(1, 0)).then(d -> d.truncate(2, 0));
        Bounds.tells(none, d -> d.sameBytes(1, 2), true);
        Bounds.tells(Scenes.USUAL, d -> d.sameBytes(1, 5), true);
        Bounds.tells(Scenes.USUAL, d -> d.sameBytes(6, 6), true);
    }

    private static void sameNoFile() {
        for (int node : new int[] {0, 2, 4}) {
            for (int other = 0; other <= 6; other++) {
                int second = other;
                Bounds.tells(Scenes.USUAL, d -> d.sameBytes(node, second), false);
                Bounds.tells(Scenes.USUAL, d -> d.sameBytes(second, node), false);
            }
        }
        // Nor a file without bytes beside a folder without ENTRIES, or a link without names.
        Scene none = Scenes.entries(0).then(d -> d.makeLink(0, 3, 0, 0, 0));
        for (int node : new int[] {2, 3}) {
            Bounds.tells(none, d -> d.sameBytes(1, node), false);
            Bounds.tells(none, d -> d.sameBytes(node, 1), false);
            Bounds.tells(none, d -> d.sameBytes(node, node), false);
        }
        Bounds.tells(none, d -> d.sameBytes(1, 1), true);
        Bounds.noNode((d, x) -> d.sameBytes(x, 0));
        Bounds.noNode((d, x) -> d.sameBytes(0, x));
        Bounds.noNode((d, x) -> d.sameBytes(x, x));
    }

    // ---- promises 51 to 56

    private static void lookupName() {
        Scene all = Scenes.EMPTY.then(d -> {
            int[] names = {1, 2, 50, 98, 99};
            for (int name : names) {
                d.makeFile(0, name);
            }
        });
        Bounds.range(all, 1, 99, (d, x) -> d.lookup(0, x), x -> x < 50 ? x : x == 50 ? 3 : x - 94);
        Bounds.wrong(Scenes.USUAL, 1, 99, (d, x) -> d.lookup(1, x));
    }

    private static void lookupFails() {
        for (int name = 1; name <= 99; name++) {
            int asked = name;
            Bounds.tells(Scenes.USUAL, d -> d.lookup(0, asked), name == 10 ? 1 : name == 20 ? 2 : -1);
            Bounds.tells(Scenes.USUAL, d -> d.lookup(2, asked),
                    name == 30 ? 3 : name == 40 ? 4 : name == 50 ? 5 : -1);
        }
        for (int node : new int[] {1, 3, 4, 5, 6}) {
            Bounds.refuses(Scenes.USUAL, d -> d.lookup(node, 10), -3);
            Bounds.refuses(Scenes.USUAL, d -> d.lookup(node, 1), -3);
        }
        // A link is not followed.
        Bounds.tells(Scenes.USUAL, d -> d.lookup(2, 40), 4);
    }

    private static void followName() {
        Scene all = Scenes.EMPTY.then(d -> {
            int[] names = {1, 2, 50, 98, 99};
            for (int name : names) {
                d.makeFile(0, name);
            }
        });
        Bounds.range(all, 1, 99, (d, x) -> d.follow(0, x), x -> x < 50 ? x : x == 50 ? 3 : x - 94);
        Bounds.wrong(Scenes.USUAL, 1, 99, (d, x) -> d.follow(1, x));
    }

    private static void followFails() {
        for (int node : new int[] {1, 3, 4, 5, 6}) {
            Bounds.refuses(Scenes.USUAL, d -> d.follow(node, 10), -3);
        }
        for (int name : new int[] {1, 9, 11, 60, 99}) {
            Bounds.refuses(Scenes.USUAL, d -> d.follow(0, name), -1);
        }
        Bounds.tells(Scenes.USUAL, d -> d.follow(2, 40), 1);
        Bounds.tells(Scenes.USUAL, d -> d.follow(0, 20), 2);
    }

    private static void names() {
        for (int many = 1; many <= 12; many++) {
            Scene scene = Scenes.rootEntries(many);
            for (int k = -1; k <= 13; k++) {
                int which = k;
                int due = k < 0 || k >= many ? -1 : k == 0 ? 1 : 9 + k;
                Bounds.tells(scene, d -> d.nameAt(0, which), due);
            }
        }
        for (int k : new int[] {Integer.MIN_VALUE, -1, 2, 11, 12, 13, Integer.MAX_VALUE}) {
            Bounds.refuses(Scenes.USUAL, d -> d.nameAt(0, k), -1);
            Bounds.refuses(Scenes.USUAL, d -> d.nameAt(1, k), -1);
            Bounds.noNode((d, x) -> d.nameAt(x, k));
        }
        for (int node : new int[] {1, 3, 4, 5, 6}) {
            Bounds.tells(Scenes.USUAL, d -> d.nameAt(node, 0), -1);
        }
        Bounds.tells(Scenes.EMPTY, d -> d.nameAt(0, 0), -1);
        // By rising names, however they came: the lowest and the highest one come last.
        Scene late = Scenes.USUAL.then(d -> d.makeFile(0, 99)).then(d -> d.makeFile(0, 1));
        int[] due = {1, 10, 20, 99, -1};
        for (int k = 0; k < due.length; k++) {
            int which = k;
            Bounds.tells(late, d -> d.nameAt(0, which), due[k]);
        }
    }

    private static void parents() {
        int[] due = {0, -1, 0, -1, -1, -1, -1};
        for (int node = 0; node <= 6; node++) {
            int number = node;
            Bounds.tells(Scenes.USUAL, d -> d.parentOf(number), due[node]);
        }
        Scene moved = Scenes.USUAL.then(d -> d.makeFolder(2, 60)).then(d -> d.makeFolder(7, 61));
        Bounds.tells(moved, d -> d.parentOf(7), 2);
        Bounds.tells(moved, d -> d.parentOf(8), 7);
        Bounds.tells(moved.then(d -> d.rename(7, 61, 0, 1)), d -> d.parentOf(8), 0);
        Bounds.tells(moved.then(d -> d.rename(7, 61, 7, 1)), d -> d.parentOf(8), 7);
        Bounds.tells(moved.then(d -> d.exchange(7, 61, 0, 10)), d -> d.parentOf(8), 0);
        Bounds.tells(moved.then(d -> d.rename(2, 60, 0, 1)), d -> d.parentOf(8), 7);
    }

    private static void depths() {
        int[] due = {0, -1, 1, -1, -1, -1, -1};
        for (int node = 0; node <= 6; node++) {
            int number = node;
            Bounds.tells(Scenes.USUAL, d -> d.depthOf(number), due[node]);
        }
        Scene deepest = d -> {
            for (int k = 0; k < 31; k++) {
                d.makeFolder(k, 1);
            }
        };
        for (int node : new int[] {0, 1, 2, 30, 31}) {
            Bounds.tells(deepest, d -> d.depthOf(node), node);
        }
        Bounds.tells(deepest.then(d -> d.rename(1, 1, 0, 2)), d -> d.depthOf(31), 30);
    }

    private static void orphans() {
        for (int node = 0; node <= 6; node++) {
            int number = node;
            Bounds.tells(Scenes.USUAL, d -> d.isOrphan(number), node == 6);
        }
        Scene two = Scenes.USUAL.then(d -> d.addName(0, 11, 1)).then(d -> d.unlink(0, 10));
        Bounds.tells(two, d -> d.isOrphan(1), false);
        Bounds.tells(two.then(d -> d.unlink(0, 11)), d -> d.isOrphan(1), true);
        Bounds.tells(two.then(d -> d.unlink(0, 11)).then(d -> d.close(1)), d -> d.isOrphan(1), true);
        Scene closed = two.then(d -> d.unlink(0, 11)).then(d -> d.close(1)).then(d -> d.close(2));
        Bounds.tells(closed, d -> d.isOrphan(1), Bounds.INDEX);
    }

    // ---- promises 57 and 58

    private static void under() {
        // The ROOT takes 1 and holds 3 of file 1; folder 2 takes 1, holds 4 of file 3 and those 3 of file 5.
        Bounds.tells(Scenes.USUAL, d -> d.blocksUnder(0), 9);
        Bounds.tells(Scenes.USUAL, d -> d.blocksUnder(2), 8);
        // Two names of a file in it, and a BLOCK SHARED within it, count once.
        Scene twice = Scenes.USUAL.then(d -> d.addName(2, 60, 3));
        Bounds.tells(twice, d -> d.blocksUnder(2), 8);
        Scene clone = Scenes.USUAL.then(d -> d.cloneFile(2, 60, 5));
        Bounds.tells(clone, d -> d.blocksUnder(2), 8);
        Bounds.tells(clone.then(d -> d.makeLink(2, 61, 0, 0, 0)), d -> d.blocksUnder(2), 9);
        // What a link leads to is not in it; what a folder in it holds is.
        Scene nested = Scenes.USUAL.then(d -> {
            d.makeFolder(2, 60);
            d.addName(7, 1, 6);
            d.addName(7, 1, 1);
        });
        Bounds.tells(nested, d -> d.blocksUnder(7), 4);
        Bounds.tells(nested, d -> d.blocksUnder(2), 9);
        Bounds.tells(nested, d -> d.blocksUnder(0), 10);
        Bounds.tells(Scenes.EMPTY, d -> d.blocksUnder(0), 0);
        Bounds.tells(Scenes.entries(0), d -> d.blocksUnder(2), 0);
        Scene deep = d -> {
            for (int k = 0; k < 30; k++) {
                d.makeFolder(k, 1);
            }
            Given.file(d, 30, 1, 1);
        };
        for (int node = 0; node <= 31; node++) {
            int number = node;
            Bounds.tells(deep, d -> d.blocksUnder(number), node == 31 ? 1 : 32 - node);
            Bounds.tells(deep, d -> d.wouldFree(number), node == 0 ? 32 : 33 - node);
        }
    }

    private static void underOthers() {
        int[] own = {-1, 3, -1, 4, 0, 3, 1};
        for (int node = 0; node <= 6; node++) {
            int number = node;
            if (own[node] >= 0) {
                Bounds.tells(Scenes.USUAL, d -> d.blocksUnder(number), own[node]);
            }
        }
        Bounds.tells(Scenes.rootEntries(1), d -> d.blocksUnder(1), 0);
    }

    private static void freeShared() {
        // Files 1 and 5 have the same 3 BLOCKS; folder 2 holds files 3 (4 BLOCKS) and 5, and a link.
        int[] due = {9, 0, 5, 4, 0, 0, 1};
        for (int node = 0; node <= 6; node++) {
            int number = node;
            Bounds.tells(Scenes.USUAL, d -> d.wouldFree(number), due[node]);
        }
        // One of the three has its own BLOCK.
        Scene own = Scenes.USUAL.then(d -> d.write(1, 1, 1));
        Bounds.tells(own, d -> d.wouldFree(1), 1);
        Bounds.tells(own, d -> d.wouldFree(5), 1);
        // In a folder both go, in two folders not.
        Scene both = Scenes.USUAL.then(d -> d.rename(0, 10, 2, 10));
        Bounds.tells(both, d -> d.wouldFree(2), 9);
        Bounds.tells(both, d -> d.wouldFree(1), 0);
    }

    private static void freeEntries() {
        for (int many = 1; many <= 12; many++) {
            // File 1 is one of these ENTRIES; without it the ROOT takes a BLOCK less with 1, 5, 9.
            Bounds.tells(Scenes.rootEntries(many), d -> d.wouldFree(1), many % 4 == 1 ? 1 : 0);
            Bounds.tells(Scenes.rootEntries(many), d -> d.wouldFree(0), (many + 3) / 4);
            // Folder 2 takes its own, and the ROOT has 2 ENTRIES with it.
            Bounds.tells(Scenes.entries(many), d -> d.wouldFree(2), (many + 3) / 4);
        }
        // Several ENTRIES of the same node go together: of 6 there are 3 left, or 5.
        for (int names = 1; names <= 4; names++) {
            int count = names;
            Scene scene = Scenes.rootEntries(7 - names).then(d -> {
                for (int k = 1; k < count; k++) {
                    d.addName(0, 50 + k, 1);
                }
            });
            Bounds.tells(scene, d -> d.sizeOf(0), 6);
            Bounds.tells(scene, d -> d.wouldFree(1), names >= 2 ? 1 : 0);
        }
    }

    private static void freeOther() {
        // File 3 in folder 2 is the fifth ENTRY of the ROOT as well.
        Scene scene = Scenes.EMPTY.then(d -> {
            d.makeFile(0, 1);
            d.makeFolder(0, 2);
            d.makeFile(2, 3);
            d.addName(0, 3, 3);
            d.makeLink(0, 4, 0, 0, 0);
        });
        Bounds.tells(scene, d -> d.wouldFree(2), 1);
        Scene five = scene.then(d -> d.makeLink(0, 5, 0, 0, 0));
        Bounds.tells(five, d -> d.wouldFree(2), 2);
        Bounds.tells(five, d -> d.wouldFree(3), 2);
        Bounds.tells(five, d -> d.wouldFree(1), 1);
        // With six of them folder 2 takes two ENTRIES with it, file 3 only one.
        Scene six = five.then(d -> d.makeLink(0, 6, 0, 0, 0));
        Bounds.tells(six, d -> d.wouldFree(2), 2);
        Bounds.tells(six, d -> d.wouldFree(3), 1);
        Scene seven = six.then(d -> d.makeLink(0, 7, 0, 0, 0));
        Bounds.tells(seven, d -> d.wouldFree(2), 1);
        // An ENTRY in a third folder, all of which it is.
        Scene third = scene.then(d -> d.makeFolder(0, 8)).then(d -> d.addName(5, 1, 3));
        Bounds.tells(third, d -> d.wouldFree(2), 3);
        Bounds.tells(third, d -> d.wouldFree(5), 3);
        Bounds.tells(third, d -> d.wouldFree(0), 4);
    }

    private static void freeOrphans() {
        // ORPHAN 6 stays when the ROOT would be gone, also with what it shares.
        Scene shared = Scenes.USUAL.then(d -> d.share(1, 0, 6, 0));
        Bounds.tells(Scenes.USUAL, JournalDisk::used, 10);
        Bounds.tells(Scenes.USUAL, d -> d.wouldFree(0), 9);
        Bounds.tells(Scenes.USUAL, d -> d.wouldFree(6), 1);
        Bounds.tells(shared, JournalDisk::used, 10);
        Bounds.tells(shared, d -> d.wouldFree(0), 9);
        Bounds.tells(shared, d -> d.wouldFree(6), 0);
        Bounds.tells(shared, d -> d.wouldFree(1), 0);
        // A file with a name and a handle goes with its folder.
        Bounds.tells(Scenes.USUAL, d -> d.wouldFree(3), 4);
    }

    private static void freeReally() {
        // Files that are removed indeed: what was told is what USED is less.
        for (int node : new int[] {1, 3, 5}) {
            JournalDisk d = Scenes.USUAL.made();
            d.close(1);
            d.close(2);
            d.close(4);
            int used = d.used();
            int told = d.wouldFree(node);
            d.unlink(node == 1 ? 0 : 2, node == 1 ? 10 : node == 3 ? 30 : 50);
            Check.is(d.typeOf(node), 0);
            Check.is(used - d.used(), told);
        }
        JournalDisk d = Scenes.USUAL.made();
        int told = d.wouldFree(6);
        int used = d.used();
        d.close(0);
        Check.is(used - d.used(), told);
        for (int many = 1; many <= 12; many++) {
            JournalDisk e = Scenes.rootEntries(many).then(x -> x.unlink(0, 1)).then(x -> x.makeFolder(0, 1)).made();
            int before = e.used();
            int would = e.wouldFree(1);
            Check.is(e.removeFolder(0, 1), 1);
            Check.is(before - e.used(), would);
        }
    }
}
