/** Promises 1 to 6 at their edges: a new object, and what makes an ENTRY. */
public final class EdgesOfMakingTest {
    /** One of the methods that make an ENTRY; node is the file that is cloned, or gets the name. */
    interface Adder {
        int add(JournalDisk disk, int folder, int name, int node);
    }

    private static final String[] PROMISES = {
        "promise 2: makeFile", "promise 3: makeFolder", "promise 4: makeLink", "promise 5: cloneFile",
        "promise 6: addName"
    };
    private static final Adder[] ADDERS = {
        (d, folder, name, node) -> d.makeFile(folder, name), (d, folder, name, node) -> d.makeFolder(folder, name),
        (d, folder, name, node) -> d.makeLink(folder, name, 0, 0, 0),
        (d, folder, name, node) -> d.cloneFile(folder, name, node),
        (d, folder, name, node) -> d.addName(folder, name, node)
    };
    private static final int ADD_NAME = 4;

    public static void main(String[] args) {
        Check.test("promise 1: the ROOT alone", EdgesOfMakingTest::rootAlone);
        Check.test("promise 1: all of it is committed", EdgesOfMakingTest::newIsCommitted);
        Check.test("promise 1: it is not DOWN", EdgesOfMakingTest::newIsUp);
        Check.test("promise 1: two objects know nothing of each other", EdgesOfMakingTest::twoObjects);
        for (int k = 0; k < ADDERS.length; k++) {
            testAdder(PROMISES[k], ADDERS[k], k == ADD_NAME);
        }
        Check.test("promise 2: the file is without bytes", EdgesOfMakingTest::fileIsEmpty);
        Check.test("promise 3: the folder is without ENTRIES", EdgesOfMakingTest::folderIsEmpty);
        Check.test("promise 4: up is -1 to 3", EdgesOfMakingTest::linkUp);
        Check.test("promise 4: first is 0 to 99", EdgesOfMakingTest::linkFirst);
        Check.test("promise 4: second is 0 to 99", EdgesOfMakingTest::linkSecond);
        Check.test("promise 4: first is 0 and second is not", EdgesOfMakingTest::linkSecondAlone);
        Check.test("promise 5: SIZE and BLOCKS at the same places", EdgesOfMakingTest::cloneIsAlike);
        Check.test("promise 5: node is no file", EdgesOfMakingTest::cloneOfNoFile);
        Check.test("promise 5: node is not there", EdgesOfMakingTest::cloneOfNothing);
        Check.test("promise 5: also of an ORPHAN", EdgesOfMakingTest::cloneOfOrphan);
        Check.test("promise 5: -8 by the places with BLOCKS", EdgesOfMakingTest::cloneQuota);
        Check.test("promise 6: node has 5, 6 LINKS", EdgesOfMakingTest::addLinks);
        Check.test("promise 6: node is a folder", EdgesOfMakingTest::addFolder);
        Check.test("promise 6: node is not there", EdgesOfMakingTest::addNothing);
        Check.test("promise 6: node is an ORPHAN, ahead of -2 and -5", EdgesOfMakingTest::addOrphan);
        Check.test("promise 6: -2 ahead of -5 by the LINKS", EdgesOfMakingTest::addTaken);
        Check.end();
    }

    private static void testAdder(String promise, Adder adder, boolean isName) {
        Check.test(promise + ", name is 1 to 99", () -> name(adder, isName));
        Check.test(promise + ", there is no such node", () -> noFolder(adder));
        Check.test(promise + ", it is DOWN", () -> Bounds.down(d -> adder.add(d, 40, 0, 40)));
        Check.test(promise + ", folder is no folder", () -> wrongFolder(adder));
        Check.test(promise + ", the ENTRY is there already", () -> taken(adder, isName));
        Check.test(promise + ", folder has 10, 11, 12 ENTRIES", () -> entries(adder, isName));
        Check.test(promise + ", there are 30, 31, 32 nodes", () -> nodes(adder, isName));
        Check.test(promise + ", the smallest number", () -> smallest(adder, isName));
        Check.test(promise + ", 118, 119, 120 BLOCKS are USED", () -> room(adder, isName));
        Check.test(promise + ", a user would use more than its QUOTA", () -> quota(adder, isName));
        Check.test(promise + ", no more than now is fine", () -> quotaKept(adder, isName));
        Check.test(promise + ", what goes ahead of what", () -> order(adder, isName));
        Check.test(promise + ", the OWNER is that of the folder", () -> owner(adder, isName));
    }

    // ---- promise 1

    private static void rootAlone() {
        JournalDisk d = new JournalDisk();
        Check.is(d.nodes(), 1);
        for (int n = -1; n <= 33; n++) {
            Check.is(d.typeOf(n), n == 0 ? 2 : 0);
        }
        Check.is(d.nameAt(0, 0), -1);
        Check.is(d.used(), 0);
        Check.is(d.greatestFile(), -1);
        for (int name = 1; name <= 99; name++) {
            Check.is(d.lookup(0, name), -1);
        }
    }

    private static void newIsCommitted() {
        JournalDisk d = new JournalDisk();
        Check.is(d.waiting(), 0);
        Check.is(d.changes(), 0);
        d.fail(0, 1, 1);
        Check.is(d.sync(), true);
        long before = d.digest();
        d.cut();
        Check.is(d.mount(), 0);
        Check.is(d.mounts(), 1);
        Check.is(d.nodes(), 1);
        Check.is(d.digest() == before, false);
        Check.is(d.ownerOf(0), 0);
        Check.is(d.quotaOf(0), 120);
    }

    private static void newIsUp() {
        JournalDisk d = new JournalDisk();
        Check.is(d.isDown(), false);
        Bounds.refuses(Scenes.EMPTY, JournalDisk::mount, Bounds.STATE);
        Check.is(d.mounts(), 0);
    }

    private static void twoObjects() {
        JournalDisk one = new JournalDisk();
        JournalDisk other = new JournalDisk();
        long before = other.digest();
        Scenes.USUAL.play(one);
        Check.is(other.digest(), before);
        one.cut();
        Check.is(other.isDown(), false);
        Check.is(new JournalDisk().digest(), before);
    }

    // ---- what makes an ENTRY

    private static void name(Adder adder, boolean isName) {
        Bounds.range(Scenes.USUAL, 1, 99, (d, x) -> adder.add(d, 0, x, 1), x -> isName ? 2 : 7);
        // The wrong name goes ahead of all that hinders.
        Bounds.refuses(Scenes.USUAL, d -> adder.add(d, 1, 0, 2), Bounds.ARGUMENT);
        Bounds.refuses(Scenes.nodes(32), d -> adder.add(d, 0, 100, 1), Bounds.ARGUMENT);
    }

    private static void noFolder(Adder adder) {
        Bounds.noNode((d, x) -> adder.add(d, x, 5, 1));
        Bounds.noNode((d, x) -> adder.add(d, x, 0, 1));
        Bounds.refuses(Scenes.nodes(31), d -> adder.add(d, 31, 5, 1), Bounds.INDEX);
        Bounds.refuses(Scenes.nodes(32), d -> adder.add(d, 32, 5, 1), Bounds.INDEX);
    }

    private static void wrongFolder(Adder adder) {
        for (int folder : new int[] {1, 3, 4, 5, 6}) {
            Bounds.refuses(Scenes.USUAL, d -> adder.add(d, folder, 1, 1), -3);
        }
        Bounds.refuses(Scenes.nodes(32), d -> adder.add(d, 1, 1, 1), -3);
        Bounds.refuses(Scenes.nodes(32), d -> adder.add(d, 31, 1, 1), -3);
        Bounds.refuses(Scenes.room(0).then(d -> d.setQuota(0, 0)), d -> adder.add(d, 7, 1, 7), -3);
    }

    private static void taken(Adder adder, boolean isName) {
        int[] names = {10, 20};
        for (int name : names) {
            Bounds.refuses(Scenes.USUAL, d -> adder.add(d, 0, name, 1), -2);
            Bounds.tells(Scenes.USUAL, d -> adder.add(d, 0, name - 1, 1), isName ? 2 : 7);
            Bounds.tells(Scenes.USUAL, d -> adder.add(d, 0, name + 1, 1), isName ? 2 : 7);
            // The name is free in another folder.
            Bounds.tells(Scenes.USUAL, d -> adder.add(d, 2, name, 1), isName ? 2 : 7);
        }
        for (int name = 30; name <= 50; name += 10) {
            int inside = name;
            Bounds.refuses(Scenes.USUAL, d -> adder.add(d, 2, inside, 1), -2);
        }
    }

    private static void entries(Adder adder, boolean isName) {
        for (int many = 10; many <= 11; many++) {
            int count = many;
            Bounds.tells(Scenes.entries(many), d -> adder.add(d, 2, 99, 1), isName ? 2 : 3 + many);
            Bounds.tells(Scenes.entries(many).then(d -> adder.add(d, 2, 99, 1)), d -> d.sizeOf(2), count + 1);
            Bounds.tells(Scenes.rootEntries(many), d -> adder.add(d, 0, 99, 1), isName ? 2 : 1 + many);
            Bounds.tells(Scenes.rootEntries(many).then(d -> adder.add(d, 0, 99, 1)), d -> d.sizeOf(0), count + 1);
        }
        Bounds.refuses(Scenes.entries(12), d -> adder.add(d, 2, 99, 1), -5);
        Bounds.refuses(Scenes.rootEntries(12), d -> adder.add(d, 0, 99, 1), -5);
        // One ENTRY less, and there is room again.
        Bounds.tells(Scenes.entries(12).then(d -> d.unlink(2, 10)), d -> adder.add(d, 2, 99, 1), isName ? 2 : 3);
    }

    private static void nodes(Adder adder, boolean isName) {
        for (int many = 30; many <= 31; many++) {
            int count = many;
            Scene scene = Scenes.nodes(many);
            Bounds.tells(scene, JournalDisk::nodes, many);
            Bounds.tells(scene, d -> adder.add(d, 3, 99, 1), isName ? 2 : many);
            Bounds.tells(scene.then(d -> adder.add(d, 3, 99, 1)), JournalDisk::nodes, isName ? count : count + 1);
        }
        Bounds.tells(Scenes.nodes(32), JournalDisk::nodes, 32);
        if (isName) {
            Bounds.tells(Scenes.nodes(32), d -> adder.add(d, 3, 99, 1), 2);
        } else {
            Bounds.refuses(Scenes.nodes(32), d -> adder.add(d, 3, 99, 1), -5);
        }
    }

    private static void smallest(Adder adder, boolean isName) {
        // In folder 2 of nodes(32) the links named 10, 11 and 19 are the nodes 4, 7 and 31.
        Scene scene = Scenes.nodes(32).then(d -> {
            d.unlink(2, 19);
            d.unlink(2, 11);
            d.unlink(2, 10);
        });
        int[] due = isName ? new int[] {2, 3, 4} : new int[] {4, 7, 31};
        JournalDisk d = scene.made();
        for (int k = 0; k < 3; k++) {
            Check.is(adder.add(d, 2, 50 + k, 1), due[k]);
        }
    }

    private static void room(Adder adder, boolean isName) {
        for (int folder : new int[] {0, 8}) {
            Bounds.refuses(Scenes.room(0), d -> adder.add(d, folder, 9, 7), -7);
            for (int spare = 1; spare <= 2; spare++) {
                Bounds.tells(Scenes.room(spare), d -> adder.add(d, folder, 9, 7), isName ? 2 : 9);
                Bounds.tells(Scenes.room(spare).then(d -> adder.add(d, folder, 9, 7)), JournalDisk::used,
                        121 - spare);
            }
        }
        // With 6 and 7 ENTRIES the ROOT takes 2 BLOCKS all the same.
        Scene full = Scenes.room(0).then(d -> d.removeFolder(0, 8));
        Bounds.tells(full, d -> adder.add(d, 0, 9, 7), isName ? 2 : 8);
        Bounds.tells(full.then(d -> adder.add(d, 0, 9, 7)), JournalDisk::used, 120);
    }

    private static void quota(Adder adder, boolean isName) {
        Scene four = Scenes.rootEntries(4);
        for (int quota = 0; quota <= 3; quota++) {
            int most = quota;
            Scene scene = four.then(d -> d.setQuota(0, most));
            Bounds.tells(scene, d -> d.usedBy(0), 1);
            if (quota < 2) {
                Bounds.refuses(scene, d -> adder.add(d, 0, 99, 1), -8);
            } else {
                Bounds.tells(scene, d -> adder.add(d, 0, 99, 1), isName ? 2 : 5);
                Bounds.tells(scene.then(d -> adder.add(d, 0, 99, 1)), d -> d.usedBy(0), 2);
            }
        }
        // It is the OWNER of the folder that would use more, not that of the node.
        Scene other = four.then(d -> {
            d.setOwner(1, 2);
            d.setQuota(2, 0);
        });
        Bounds.tells(other, d -> adder.add(d, 0, 99, 1), isName ? 2 : 5);
        Scene folder = four.then(d -> {
            d.setOwner(0, 2);
            d.setQuota(2, 1);
        });
        Bounds.refuses(folder, d -> adder.add(d, 0, 99, 1), -8);
        Bounds.tells(folder.then(d -> d.setQuota(2, 2)), d -> adder.add(d, 0, 99, 1), isName ? 2 : 5);
    }

    private static void quotaKept(Adder adder, boolean isName) {
        // With 1 to 3 ENTRIES the ROOT takes 1 BLOCK, with one more as well.
        for (int many = 1; many <= 3; many++) {
            Scene scene = Scenes.rootEntries(many).then(d -> d.setQuota(0, 0));
            Bounds.tells(scene, d -> adder.add(d, 0, 99, 1), isName ? 2 : 1 + many);
        }
        Bounds.refuses(Scenes.rootEntries(4).then(d -> d.setQuota(0, 0)), d -> adder.add(d, 0, 99, 1), -8);
        Scene seven = Scenes.rootEntries(7).then(d -> d.setQuota(0, 0));
        Bounds.tells(seven, d -> adder.add(d, 0, 99, 1), isName ? 2 : 8);
        Bounds.refuses(Scenes.rootEntries(8).then(d -> d.setQuota(0, 0)), d -> adder.add(d, 0, 99, 1), -8);
    }

    private static void order(Adder adder, boolean isName) {
        // -2 ahead of -5, whichever of both there are too many of.
        Bounds.refuses(Scenes.entries(12), d -> adder.add(d, 2, 10, 1), -2);
        Bounds.refuses(Scenes.nodes(32), d -> adder.add(d, 2, 10, 1), -2);
        // -2 ahead of -7 and -8.
        Scene poor = Scenes.room(0).then(d -> d.setQuota(0, 0));
        Bounds.refuses(poor, d -> adder.add(d, 0, 1, 7), -2);
        Bounds.refuses(poor.then(d -> d.punch(1, 0)), d -> adder.add(d, 0, 1, 7), -2);
        // -7 ahead of -8.
        Bounds.refuses(poor, d -> adder.add(d, 0, 9, 7), -7);
        Bounds.refuses(poor.then(d -> d.punch(1, 0)), d -> adder.add(d, 0, 9, 7), -8);
        // -5 ahead of -7 and -8: the ROOT has 12 ENTRIES, and a thirteenth one would need a BLOCK.
        Scene crowd = Scenes.room(4).then(d -> {
            for (int name = 9; name <= 12; name++) {
                d.makeLink(0, name, 0, 0, 0);
            }
            d.open(1);
            d.write(0, 48, 1);
        });
        Bounds.tells(crowd, JournalDisk::used, 120);
        Bounds.refuses(crowd, d -> adder.add(d, 0, 13, 7), -5);
        Bounds.refuses(crowd.then(d -> d.setQuota(0, 0)), d -> adder.add(d, 0, 13, 7), -5);
        Scene poorCrowd = Scenes.rootEntries(12).then(d -> d.setQuota(0, 0));
        Bounds.refuses(poorCrowd, d -> adder.add(d, 0, 99, 1), -5);
        if (!isName) {
            // Also by 32 nodes, with a folder that would need a BLOCK more.
            Scene nodes = Scenes.nodes(32).then(d -> {
                d.unlink(3, 18);
                d.makeLink(2, 99, 0, 0, 0);
                d.setQuota(0, 0);
            });
            Bounds.tells(nodes, d -> d.sizeOf(3), 8);
            Bounds.tells(nodes, JournalDisk::nodes, 32);
            Bounds.refuses(nodes, d -> adder.add(d, 3, 99, 1), -5);
        }
    }

    private static void owner(Adder adder, boolean isName) {
        for (int user = 0; user <= 3; user++) {
            int owner = user;
            Scene scene = Scenes.entries(1).then(d -> d.setOwner(2, owner)).then(d -> adder.add(d, 2, 99, 1));
            // One more name for a file leaves its OWNER.
            Bounds.tells(scene, d -> d.ownerOf(isName ? 1 : 4), isName ? 0 : user);
            // What is set for the folder, or where the node is moved, does not matter any more.
            Scene later = scene.then(d -> {
                d.setOwner(2, 3 - owner);
                d.rename(2, 99, 0, 98);
            });
            Bounds.tells(later, d -> d.ownerOf(isName ? 1 : 4), isName ? 0 : user);
        }
    }

    // ---- promises 2 to 4

    private static void fileIsEmpty() {
        Scene scene = Scenes.EMPTY.then(d -> {
            Given.file(d, 0, 1, 64);
            d.truncate(1, 320);
            d.unlink(0, 1);
            d.makeFile(0, 2);
        });
        JournalDisk d = scene.made();
        Check.is(d.typeOf(1), 1);
        Check.is(d.sizeOf(1), 0);
        Check.is(d.blocksOf(1), 0);
        Check.is(d.linksOf(1), 1);
        Check.is(d.nextData(1, 0), -1);
        Check.is(d.nextHole(1, 0), -1);
        for (int place = 0; place < 20; place++) {
            Check.is(d.isHole(1, place), true);
        }
        for (int place = 0; place < 320; place++) {
            Check.is(d.byteAt(1, place), 0);
        }
        Check.is(d.used(), 1);
    }

    private static void folderIsEmpty() {
        JournalDisk d = Scenes.entries(12).made();
        for (int name = 10; name <= 21; name++) {
            d.unlink(2, name);
        }
        d.removeFolder(0, 2);
        Check.is(d.makeFolder(0, 9), 2);
        Check.is(d.sizeOf(2), 0);
        Check.is(d.blocksOf(2), 0);
        Check.is(d.nameAt(2, 0), -1);
        Check.is(d.lookup(2, 10), -1);
        Check.is(d.linksOf(2), 1);
        Check.is(d.parentOf(2), 0);
        Check.is(d.makeFolder(2, 9), 3);
        Check.is(d.parentOf(3), 2);
        Check.is(d.depthOf(3), 2);
    }

    /** The folders 1 to 4, each in the one ahead of it, all named 1. */
    private static void deep(JournalDisk d) {
        for (int k = 0; k < 4; k++) {
            d.makeFolder(k, 1);
        }
    }

    private static void linkUp() {
        Bounds.range(EdgesOfMakingTest::deep, -1, 3, (d, x) -> d.makeLink(4, 9, x, 0, 0), x -> 5);
        for (int up = -1; up <= 3; up++) {
            int times = up;
            Bounds.tells(EdgesOfMakingTest::deep, d -> {
                d.makeLink(4, 9, times, 0, 0);
                return d.follow(4, 9);
            }, up < 0 ? 0 : 4 - up);
        }
        Bounds.noNode((d, x) -> d.makeLink(x, 5, 4, 0, 0));
        Bounds.refuses(Scenes.USUAL, d -> d.makeLink(1, 5, 4, 0, 0), Bounds.ARGUMENT);
        Bounds.refuses(Scenes.USUAL, d -> d.makeLink(1, 5, -2, 0, 0), Bounds.ARGUMENT);
    }

    private static void linkFirst() {
        Bounds.range(Scenes.USUAL, 0, 99, (d, x) -> d.makeLink(0, 5, 0, x, 0), x -> 7);
        for (int first : new int[] {0, 1, 2, 98, 99}) {
            Bounds.tells(Scenes.USUAL.then(d -> d.makeLink(0, 5, 0, first, 0)), d -> d.sizeOf(7), first == 0 ? 0 : 1);
        }
        // With a second name: a first one of 0 is wrong then.
        Bounds.range(Scenes.USUAL, 1, 99, (d, x) -> d.makeLink(0, 5, 0, x, 1), x -> 7);
        Bounds.noNode((d, x) -> d.makeLink(x, 5, 0, 100, 0));
        Bounds.refuses(Scenes.USUAL, d -> d.makeLink(1, 5, 0, -1, 0), Bounds.ARGUMENT);
    }

    private static void linkSecond() {
        Bounds.range(Scenes.USUAL, 0, 99, (d, x) -> d.makeLink(0, 5, 0, 1, x), x -> 7);
        for (int second : new int[] {0, 1, 2, 98, 99}) {
            Bounds.tells(Scenes.USUAL.then(d -> d.makeLink(0, 5, 0, 99, second)), d -> d.sizeOf(7),
                    second == 0 ? 1 : 2);
        }
        Bounds.noNode((d, x) -> d.makeLink(x, 5, 0, 1, 100));
        Bounds.refuses(Scenes.USUAL, d -> d.makeLink(1, 5, 0, 1, -1), Bounds.ARGUMENT);
    }

    private static void linkSecondAlone() {
        Bounds.range(Scenes.USUAL, 0, 0, (d, x) -> d.makeLink(0, 5, 0, 0, x), x -> 7);
        Bounds.refuses(Scenes.USUAL, d -> d.makeLink(0, 5, 0, 0, 99), Bounds.ARGUMENT);
        Bounds.refuses(Scenes.USUAL, d -> d.makeLink(0, 10, 0, 0, 1), Bounds.ARGUMENT);
        Bounds.refuses(Scenes.USUAL, d -> d.makeLink(1, 5, 0, 0, 1), Bounds.ARGUMENT);
        Bounds.tells(Scenes.USUAL, d -> d.makeLink(0, 5, 0, 1, 1), 7);
    }

    // ---- promise 5

    private static void cloneIsAlike() {
        Scene scene = Scenes.EMPTY.then(d -> {
            Given.file(d, 0, 1, 64);
            d.truncate(1, 320);
            d.punch(1, 1);
            d.open(1);
            d.seek(0, 319);
            d.write(0, 1, 9);
            d.truncate(1, 319);
            d.cloneFile(0, 2, 1);
        });
        JournalDisk d = scene.made();
        Check.is(d.sizeOf(2), 319);
        Check.is(d.blocksOf(2), 4);
        Check.is(d.sharedOf(2), 4);
        Check.is(d.sharedOf(1), 4);
        Check.is(d.used(), 5);
        Check.is(d.sameBytes(1, 2), true);
        for (int place = 0; place < 20; place++) {
            Check.is(d.isHole(2, place), place == 1 || (place > 3 && place < 19));
        }
        // Of a file without bytes, and of a clone.
        Bounds.tells(Scenes.rootEntries(1), d2 -> d2.cloneFile(0, 2, 1), 2);
        Bounds.tells(Scenes.rootEntries(1).then(d2 -> d2.cloneFile(0, 2, 1)), d2 -> d2.blocksOf(2), 0);
        Bounds.tells(scene.then(d2 -> d2.cloneFile(0, 3, 2)), d2 -> d2.sameBytes(3, 1), true);
    }

    private static void cloneOfNoFile() {
        for (int node : new int[] {0, 2, 4}) {
            Bounds.refuses(Scenes.USUAL, d -> d.cloneFile(0, 5, node), -3);
            Bounds.refuses(Scenes.USUAL, d -> d.cloneFile(1, 5, node), -3);
            // Ahead of -2.
            Bounds.refuses(Scenes.USUAL, d -> d.cloneFile(0, 10, node), -3);
            Bounds.refuses(Scenes.USUAL, d -> d.cloneFile(0, 100, node), Bounds.ARGUMENT);
        }
        Bounds.refuses(Scenes.nodes(32), d -> d.cloneFile(3, 99, 2), -3);
        Bounds.refuses(Scenes.entries(12), d -> d.cloneFile(2, 99, 3), -3);
    }

    private static void cloneOfNothing() {
        Bounds.noNode((d, x) -> d.cloneFile(0, 5, x));
        Bounds.noNode((d, x) -> d.cloneFile(1, 5, x));
        Bounds.noNode((d, x) -> d.cloneFile(0, 0, x));
        Bounds.noNode((d, x) -> d.cloneFile(x, 0, x));
    }

    private static void cloneOfOrphan() {
        JournalDisk d = Scenes.USUAL.made();
        Check.is(d.cloneFile(0, 5, 6), 7);
        Check.is(d.isOrphan(7), false);
        Check.is(d.isOrphan(6), true);
        Check.is(d.sharedOf(7), 1);
        Check.is(d.close(0), 6);
        Check.is(d.sharedOf(7), 0);
        Check.is(d.byteAt(7, 15), 16);
        Check.is(d.used(), 10);
    }

    private static void cloneQuota() {
        // File 1 has 3 BLOCKS, and the ROOT takes 1: a clone of user 0 makes 7 of the 4 that it USES.
        Scene scene = Scenes.EMPTY.then(d -> Given.file(d, 0, 1, 40));
        for (int quota = 3; quota <= 8; quota++) {
            int most = quota;
            Scene limited = scene.then(d -> d.setQuota(0, most));
            if (quota < 7) {
                Bounds.refuses(limited, d -> d.cloneFile(0, 2, 1), -8);
            } else {
                Bounds.tells(limited, d -> d.cloneFile(0, 2, 1), 2);
            }
        }
        // The clone is of the OWNER of the folder: 3 places, and 1 BLOCK of the folder itself.
        Scene other = scene.then(d -> {
            d.makeFolder(0, 2);
            d.setOwner(2, 1);
            d.setQuota(0, 0);
        });
        Bounds.refuses(other.then(d -> d.setQuota(1, 3)), d -> d.cloneFile(2, 2, 1), -8);
        Bounds.tells(other.then(d -> d.setQuota(1, 4)), d -> d.cloneFile(2, 2, 1), 3);
        // Its BLOCKS are there already, so -7 asks only for that of the folder.
        Scene full = Scenes.room(1).then(d -> d.setOwner(8, 1));
        Bounds.tells(full, d -> d.cloneFile(8, 1, 2), 9);
        Bounds.tells(full.then(d -> d.cloneFile(8, 1, 2)), JournalDisk::used, 120);
        Bounds.refuses(Scenes.room(0).then(d -> d.setOwner(8, 1)), d -> d.cloneFile(8, 1, 2), -7);
    }

    // ---- promise 6

    /** File 1 and link 2 with so many LINKS each, named from 11 and from 21 on, in two folders. */
    private static Scene links(int many) {
        return d -> {
            d.makeFile(0, 11);
            d.makeLink(0, 21, 0, 0, 0);
            d.makeFolder(0, 1);
            for (int k = 1; k < many; k++) {
                d.addName(k % 2 == 0 ? 0 : 3, 11 + k, 1);
                d.addName(k % 2 == 0 ? 0 : 3, 21 + k, 2);
            }
        };
    }

    private static void addLinks() {
        for (int node = 1; node <= 2; node++) {
            int named = node;
            for (int many = 1; many <= 5; many++) {
                Bounds.tells(links(many), d -> d.addName(0, 99, named), many + 1);
                Bounds.tells(links(many).then(d -> d.addName(3, 99, named)), d -> d.linksOf(named), many + 1);
            }
            Bounds.refuses(links(6), d -> d.addName(0, 99, named), -5);
            Bounds.refuses(links(6), d -> d.addName(3, 99, named), -5);
            // One name less, and there may be one more.
            Bounds.tells(links(6).then(d -> d.unlink(0, named * 10 + 1)), d -> d.addName(3, 99, named), 6);
        }
        Bounds.refuses(links(6).then(d -> d.setQuota(0, 0)), d -> d.addName(0, 99, 1), -5);
    }

    private static void addFolder() {
        for (int node : new int[] {0, 2}) {
            Bounds.refuses(Scenes.USUAL, d -> d.addName(0, 5, node), -3);
            Bounds.refuses(Scenes.USUAL, d -> d.addName(2, 5, node), -3);
            Bounds.refuses(Scenes.USUAL, d -> d.addName(0, 10, node), -3);
        }
        Bounds.refuses(Scenes.entries(12), d -> d.addName(2, 99, 2), -3);
        Bounds.tells(Scenes.USUAL, d -> d.addName(0, 5, 1), 2);
        Bounds.tells(Scenes.USUAL, d -> d.addName(0, 5, 4), 2);
    }

    private static void addNothing() {
        Bounds.noNode((d, x) -> d.addName(0, 5, x));
        Bounds.noNode((d, x) -> d.addName(1, 0, x));
        Bounds.noNode((d, x) -> d.addName(x, 0, x));
    }

    private static void addOrphan() {
        Bounds.refuses(Scenes.USUAL, d -> d.addName(0, 5, 6), -1);
        Bounds.refuses(Scenes.USUAL, d -> d.addName(0, 10, 6), -1);
        Bounds.refuses(Scenes.USUAL, d -> d.addName(4, 5, 6), -3);
        Scene full = Scenes.entries(12).then(d -> {
            d.open(1);
            d.unlink(0, 1);
        });
        Bounds.refuses(full, d -> d.addName(2, 99, 1), -1);
        Bounds.refuses(full, d -> d.addName(2, 10, 1), -1);
        Scene poor = Scenes.rootEntries(4).then(d -> {
            d.open(1);
            d.unlink(0, 1);
            d.makeFile(0, 2);
            d.setQuota(0, 0);
        });
        Bounds.refuses(poor, d -> d.addName(0, 99, 1), -1);
        // With a handle, but with a name, it is no ORPHAN.
        Bounds.tells(Scenes.rootEntries(2).then(d -> d.open(1)), d -> d.addName(0, 99, 1), 2);
    }

    private static void addTaken() {
        Bounds.refuses(links(6), d -> d.addName(0, 11, 1), -2);
        Bounds.refuses(links(6), d -> d.addName(0, 21, 1), -2);
        Bounds.refuses(links(6), d -> d.addName(0, 1, 2), -2);
        Bounds.refuses(links(5), d -> d.addName(0, 11, 1), -2);
    }
}
