/** Promises 7 to 10 at their edges: what takes ENTRIES away, moves them, or lets them exchange their nodes. */
public final class EdgesOfMovingTest {
    public static void main(String[] args) {
        Check.test("promise 7: name is 1 to 99", EdgesOfMovingTest::unlinkName);
        Check.test("promise 7: there is no such node", () -> Bounds.noNode((d, x) -> d.unlink(x, 0)));
        Check.test("promise 7: it is DOWN", () -> Bounds.down(d -> d.unlink(40, 0)));
        Check.test("promise 7: what hinders it", EdgesOfMovingTest::unlinkHindered);
        Check.test("promise 7: the LINKS then, 6 to 0", EdgesOfMovingTest::unlinkLinks);
        Check.test("promise 7: removed at 0 LINKS, but not with a handle", EdgesOfMovingTest::unlinkRemoves);
        Check.test("promise 7: the BLOCKS of the folder", EdgesOfMovingTest::unlinkBlocks);
        Check.test("promise 7: no room and no QUOTA hinder it", EdgesOfMovingTest::unlinkPoor);
        Check.test("promise 8: name is 1 to 99", EdgesOfMovingTest::removeName);
        Check.test("promise 8: there is no such node", () -> Bounds.noNode((d, x) -> d.removeFolder(x, 0)));
        Check.test("promise 8: it is DOWN", () -> Bounds.down(d -> d.removeFolder(40, 0)));
        Check.test("promise 8: what hinders it", EdgesOfMovingTest::removeHindered);
        Check.test("promise 8: a folder with 0, 1, 12 ENTRIES", EdgesOfMovingTest::removeEntries);
        Check.test("promise 8: its number is free", EdgesOfMovingTest::removeNumber);
        Check.test("promise 9: name and toName are 1 to 99", EdgesOfMovingTest::renameNames);
        Check.test("promise 9: there is no such node", EdgesOfMovingTest::renameNodes);
        Check.test("promise 9: it is DOWN", () -> Bounds.down(d -> d.rename(40, 0, 40, 0)));
        Check.test("promise 9: folder or toFolder is no folder", EdgesOfMovingTest::renameNoFolder);
        Check.test("promise 9: there is no ENTRY to move", EdgesOfMovingTest::renameMissing);
        Check.test("promise 9: both ENTRIES have the same node", EdgesOfMovingTest::renameSame);
        Check.test("promise 9: -6 for it, and what is UNDER it", EdgesOfMovingTest::renameRound);
        Check.test("promise 9: -6 ahead of -3, -4, -5", EdgesOfMovingTest::renameRoundFirst);
        Check.test("promise 9: -3 if just one is a folder", EdgesOfMovingTest::renameSorts);
        Check.test("promise 9: -4 with 0, 1 ENTRIES", EdgesOfMovingTest::renameNotEmpty);
        Check.test("promise 9: -5 with 11, 12 ENTRIES", EdgesOfMovingTest::renameTooMany);
        Check.test("promise 9: -7 at 119, 120 BLOCKS", EdgesOfMovingTest::renameRoom);
        Check.test("promise 9: -7 counts what is left behind the whole", EdgesOfMovingTest::renameRoomWhole);
        Check.test("promise 9: -8 for the OWNER of toFolder", EdgesOfMovingTest::renameQuota);
        Check.test("promise 9: -7 ahead of -8, both behind all", EdgesOfMovingTest::renameOrder);
        Check.test("promise 9: the node replaced has one LINK less", EdgesOfMovingTest::renameReplaces);
        Check.test("promise 9: the folder replaced is removed", EdgesOfMovingTest::renameReplacesFolder);
        Check.test("promise 10: name and otherName are 1 to 99", EdgesOfMovingTest::exchangeNames);
        Check.test("promise 10: there is no such node", EdgesOfMovingTest::exchangeNodes);
        Check.test("promise 10: it is DOWN", () -> Bounds.down(d -> d.exchange(40, 0, 40, 0)));
        Check.test("promise 10: folder or other is no folder", EdgesOfMovingTest::exchangeNoFolder);
        Check.test("promise 10: one of both is not there", EdgesOfMovingTest::exchangeMissing);
        Check.test("promise 10: -6 either way round", EdgesOfMovingTest::exchangeRound);
        Check.test("promise 10: an ENTRY with itself, or with one of the same node", EdgesOfMovingTest::exchangeSame);
        Check.test("promise 10: no room and no QUOTA hinder it", EdgesOfMovingTest::exchangePoor);
        Check.test("promise 10: parents and LINKS behind it", EdgesOfMovingTest::exchangeParents);
        Check.end();
    }

    // ---- promise 7

    private static void unlinkName() {
        Scene both = Scenes.EMPTY.then(d -> {
            int[] names = {1, 2, 50, 98, 99};
            for (int name : names) {
                d.makeFile(0, name);
            }
        });
        Bounds.range(both, 1, 99, (d, x) -> d.unlink(0, x), x -> 0);
        Bounds.wrong(Scenes.USUAL, 1, 99, (d, x) -> d.unlink(0, x));
        Bounds.wrong(Scenes.USUAL, 1, 99, (d, x) -> d.unlink(1, x));
    }

    private static void unlinkHindered() {
        for (int node : new int[] {1, 3, 4, 5, 6}) {
            Bounds.refuses(Scenes.USUAL, d -> d.unlink(node, 10), -3);
        }
        for (int name : new int[] {1, 9, 11, 19, 21, 30, 60, 99}) {
            Bounds.refuses(Scenes.USUAL, d -> d.unlink(0, name), -1);
        }
        Bounds.refuses(Scenes.USUAL, d -> d.unlink(2, 10), -1);
        // A folder, with ENTRIES and without.
        Bounds.refuses(Scenes.USUAL, d -> d.unlink(0, 20), -3);
        Bounds.refuses(Scenes.entries(0), d -> d.unlink(0, 2), -3);
        Bounds.refuses(Scenes.rootEntries(1), d -> d.unlink(0, 2), -1);
    }

    private static void unlinkLinks() {
        Scene six = Scenes.EMPTY.then(d -> {
            d.makeFile(0, 1);
            d.makeLink(0, 11, 0, 0, 0);
            for (int k = 2; k <= 6; k++) {
                d.addName(0, k, 1);
            }
        });
        JournalDisk d = six.made();
        for (int k = 1; k <= 6; k++) {
            Check.is(d.linksOf(1), 7 - k);
            Check.is(d.unlink(0, k), 6 - k);
            Check.is(d.lookup(0, k), -1);
        }
        Check.is(d.typeOf(1), 0);
        Check.is(d.unlink(0, 11), 0);
        Check.is(d.typeOf(2), 0);
        Check.is(d.nodes(), 1);
        Check.is(d.changes(), 14);
    }

    private static void unlinkRemoves() {
        Scene file = Scenes.EMPTY.then(d -> Given.file(d, 0, 1, 33));
        Bounds.tells(file.then(d -> d.unlink(0, 1)), d -> d.typeOf(1), 0);
        Bounds.tells(file.then(d -> d.unlink(0, 1)), JournalDisk::used, 0);
        Scene open = file.then(d -> d.open(1));
        Bounds.tells(open, d -> d.unlink(0, 1), 0);
        Bounds.tells(open.then(d -> d.unlink(0, 1)), d -> d.isOrphan(1), true);
        Bounds.tells(open.then(d -> d.unlink(0, 1)), JournalDisk::used, 3);
        Bounds.tells(open.then(d -> d.unlink(0, 1)), d -> d.byteAt(1, 32), 33);
        // A handle that is closed, or one on another file, does not keep it.
        Scene closed = open.then(d -> d.close(0));
        Bounds.tells(closed.then(d -> d.unlink(0, 1)), d -> d.typeOf(1), 0);
        Scene other = file.then(d -> {
            d.makeFile(0, 2);
            d.open(2);
        });
        Bounds.tells(other.then(d -> d.unlink(0, 1)), d -> d.typeOf(1), 0);
        // With a name left it stays without a handle.
        Scene named = file.then(d -> d.addName(0, 2, 1));
        Bounds.tells(named, d -> d.unlink(0, 1), 1);
        Bounds.tells(named.then(d -> d.unlink(0, 1)), d -> d.typeOf(1), 1);
        // What it shared is no longer SHARED.
        Scene cloned = file.then(d -> d.cloneFile(0, 2, 1)).then(d -> d.unlink(0, 1));
        Bounds.tells(cloned, d -> d.sharedOf(2), 0);
        Bounds.tells(cloned, d -> d.byteAt(2, 32), 33);
    }

    private static void unlinkBlocks() {
        int[] due = {0, 0, 1, 1, 1, 1, 2, 2, 2, 2, 3, 3, 3};
        for (int many = 1; many <= 12; many++) {
            Scene scene = Scenes.rootEntries(many).then(d -> d.unlink(0, 1));
            Bounds.tells(scene, JournalDisk::used, due[many]);
            Bounds.tells(scene, d -> d.sizeOf(0), many - 1);
        }
    }

    private static void unlinkPoor() {
        Scene poor = Scenes.room(0).then(d -> d.setQuota(0, 0));
        Bounds.tells(poor, d -> d.unlink(0, 7), 0);
        Bounds.tells(poor, d -> d.unlink(0, 2), 0);
        Bounds.tells(poor.then(d -> d.unlink(0, 2)), JournalDisk::used, 100);
    }

    // ---- promise 8

    private static void removeName() {
        Scene folders = Scenes.EMPTY.then(d -> {
            int[] names = {1, 2, 50, 98, 99};
            for (int name : names) {
                d.makeFolder(0, name);
            }
        });
        Bounds.range(folders, 1, 99, (d, x) -> d.removeFolder(0, x), x -> x < 50 ? x : x == 50 ? 3 : x - 94);
        Bounds.wrong(Scenes.USUAL, 1, 99, (d, x) -> d.removeFolder(0, x));
        Bounds.wrong(Scenes.USUAL, 1, 99, (d, x) -> d.removeFolder(1, x));
    }

    private static void removeHindered() {
        for (int node : new int[] {1, 3, 4, 5, 6}) {
            Bounds.refuses(Scenes.USUAL, d -> d.removeFolder(node, 20), -3);
        }
        for (int name : new int[] {1, 19, 21, 30, 60, 99}) {
            Bounds.refuses(Scenes.USUAL, d -> d.removeFolder(0, name), -1);
        }
        // A file and a link, also one that leads to a folder without ENTRIES.
        Bounds.refuses(Scenes.USUAL, d -> d.removeFolder(0, 10), -3);
        Bounds.refuses(Scenes.USUAL, d -> d.removeFolder(2, 40), -3);
        Scene link = Scenes.entries(0).then(d -> d.makeLink(0, 3, 0, 2, 0));
        Bounds.refuses(link, d -> d.removeFolder(0, 3), -3);
        Bounds.refuses(Scenes.USUAL, d -> d.removeFolder(0, 20), -4);
    }

    private static void removeEntries() {
        Bounds.tells(Scenes.entries(0), d -> d.removeFolder(0, 2), 2);
        for (int many : new int[] {1, 2, 11, 12}) {
            Bounds.refuses(Scenes.entries(many), d -> d.removeFolder(0, 2), -4);
        }
        Bounds.tells(Scenes.entries(1).then(d -> d.unlink(2, 10)), d -> d.removeFolder(0, 2), 2);
        // A folder in it counts as well, though that has no ENTRIES.
        Scene nested = Scenes.entries(0).then(d -> d.makeFolder(2, 5));
        Bounds.refuses(nested, d -> d.removeFolder(0, 2), -4);
        Bounds.tells(nested, d -> d.removeFolder(2, 5), 3);
    }

    private static void removeNumber() {
        JournalDisk d = Scenes.nodes(32).made();
        Check.is(d.removeFolder(0, 3), -4);
        for (int name = 10; name <= 18; name++) {
            Check.is(d.unlink(3, name), 0);
        }
        Check.is(d.removeFolder(0, 3), 3);
        Check.is(d.typeOf(3), 0);
        Check.is(d.nodes(), 22);
        Check.index(() -> d.sizeOf(3));
        Check.is(d.makeFile(0, 3), 3);
        Check.is(d.makeFile(2, 50), 5);
        Scene poor = Scenes.room(0).then(x -> x.setQuota(0, 0));
        Bounds.tells(poor, x -> x.removeFolder(0, 8), 8);
    }

    // ---- promise 9

    private static void renameNames() {
        Bounds.range(Scenes.USUAL, 1, 99, (d, x) -> d.rename(0, 10, 0, x), x -> 1);
        Bounds.range(Scenes.USUAL, 1, 99, (d, x) -> d.rename(2, 30, 0, x), x -> 3);
        Bounds.wrong(Scenes.USUAL, 1, 99, (d, x) -> d.rename(0, x, 0, 5));
        Bounds.wrong(Scenes.USUAL, 1, 99, (d, x) -> d.rename(1, x, 1, x));
        Bounds.wrong(Scenes.USUAL, 1, 99, (d, x) -> d.rename(0, 77, 0, x));
        for (int name : new int[] {1, 2, 98, 99}) {
            Scene scene = Scenes.EMPTY.then(d -> d.makeFile(0, name));
            Bounds.tells(scene, d -> d.rename(0, name, 0, 50), 1);
        }
    }

    private static void renameNodes() {
        Bounds.noNode((d, x) -> d.rename(x, 10, 0, 5));
        Bounds.noNode((d, x) -> d.rename(0, 10, x, 5));
        Bounds.noNode((d, x) -> d.rename(x, 0, x, 0));
        Bounds.noNode((d, x) -> d.rename(1, 0, x, 100));
        Bounds.noNode((d, x) -> d.rename(x, 100, 1, 0));
    }

    private static void renameNoFolder() {
        for (int node : new int[] {1, 3, 4, 5, 6}) {
            Bounds.refuses(Scenes.USUAL, d -> d.rename(node, 10, 0, 5), -3);
            Bounds.refuses(Scenes.USUAL, d -> d.rename(0, 10, node, 5), -3);
            // Ahead of -1.
            Bounds.refuses(Scenes.USUAL, d -> d.rename(0, 11, node, 5), -3);
        }
    }

    private static void renameMissing() {
        for (int name : new int[] {1, 9, 11, 30, 60, 99}) {
            Bounds.refuses(Scenes.USUAL, d -> d.rename(0, name, 2, 5), -1);
            Bounds.refuses(Scenes.USUAL, d -> d.rename(0, name, 0, name), -1);
            Bounds.refuses(Scenes.USUAL, d -> d.rename(0, name, 0, 20), -1);
        }
        Bounds.refuses(Scenes.entries(12), d -> d.rename(0, 99, 2, 99), -1);
    }

    private static void renameSame() {
        // The same ENTRY, whatever its node is.
        Scene usual = Scenes.USUAL;
        int[][] own = {{0, 10, 1}, {0, 20, 2}, {2, 30, 3}, {2, 40, 4}, {2, 50, 5}};
        for (int[] entry : own) {
            Bounds.tells(usual, d -> d.rename(entry[0], entry[1], entry[0], entry[1]), entry[2]);
            Bounds.meet(usual.then(d -> d.rename(entry[0], entry[1], entry[0], entry[1])),
                    usual.then(d -> d.setQuota(3, 50)));
        }
        // Two ENTRIES of the same node: both stay, also where the folder has 12 and the user has no QUOTA.
        Scene two = Scenes.entries(11).then(d -> {
            d.addName(2, 99, 1);
            d.setQuota(0, 0);
        });
        Bounds.tells(two, d -> d.rename(0, 1, 2, 99), 1);
        Bounds.tells(two, d -> d.rename(2, 99, 0, 1), 1);
        Bounds.meet(two.then(d -> d.rename(0, 1, 2, 99)), two.then(d -> d.setQuota(3, 120)));
        Bounds.tells(two.then(d -> d.rename(0, 1, 2, 99)), d -> d.linksOf(1), 2);
        Bounds.tells(two.then(d -> d.rename(0, 1, 2, 99)), d -> d.lookup(0, 1), 1);
        Scene full = Scenes.room(0).then(d -> d.addName(0, 7, 2)).then(d -> d.setQuota(0, 0));
        Bounds.tells(full, d -> d.rename(0, 2, 0, 2), 2);
        // It is a CHANGE all the same.
        Bounds.tells(two.then(d -> d.rename(0, 1, 2, 99)), JournalDisk::changes, 16);
    }

    /** The folders 1, 2, 3, each in the one ahead of it and named 1; folder 4 (4) and file 5 (5) in the ROOT. */
    private static void deep(JournalDisk d) {
        d.makeFolder(0, 1);
        d.makeFolder(1, 1);
        d.makeFolder(2, 1);
        d.makeFolder(0, 4);
        d.makeFile(0, 5);
    }

    private static void renameRound() {
        Scene scene = EdgesOfMovingTest::deep;
        for (int to = 1; to <= 3; to++) {
            int under = to;
            Bounds.refuses(scene, d -> d.rename(0, 1, under, 9), -6);
        }
        Bounds.refuses(scene, d -> d.rename(1, 1, 2, 9), -6);
        Bounds.refuses(scene, d -> d.rename(1, 1, 3, 9), -6);
        Bounds.refuses(scene, d -> d.rename(2, 1, 3, 9), -6);
        // To its parent, above that, and beside.
        Bounds.tells(scene, d -> d.rename(2, 1, 2, 9), 3);
        Bounds.tells(scene, d -> d.rename(2, 1, 1, 9), 3);
        Bounds.tells(scene, d -> d.rename(2, 1, 0, 9), 3);
        Bounds.tells(scene, d -> d.rename(2, 1, 4, 9), 3);
        Bounds.tells(scene, d -> d.rename(1, 1, 1, 9), 2);
        Bounds.tells(scene, d -> d.rename(0, 4, 3, 9), 4);
        Bounds.tells(scene.then(d -> d.rename(0, 4, 3, 9)), d -> d.depthOf(4), 4);
        Bounds.tells(scene, d -> d.rename(0, 5, 3, 9), 5);
        // Moved, it is UNDER other folders.
        Scene moved = scene.then(d -> d.rename(0, 1, 4, 1));
        Bounds.refuses(moved, d -> d.rename(0, 4, 3, 9), -6);
        Bounds.tells(moved, d -> d.rename(4, 1, 0, 9), 1);
    }

    private static void renameRoundFirst() {
        Scene scene = Scenes.EMPTY.then(EdgesOfMovingTest::deep).then(d -> {
            d.makeFile(1, 7);
            for (int k = 0; k < 11; k++) {
                d.makeLink(2, 20 + k, 0, 0, 0);
            }
        });
        Bounds.refuses(scene, d -> d.rename(0, 1, 1, 7), -6);
        Bounds.refuses(scene, d -> d.rename(0, 1, 1, 1), -6);
        Bounds.refuses(scene, d -> d.rename(0, 1, 2, 1), -6);
        Bounds.refuses(scene, d -> d.rename(0, 1, 2, 9), -6);
        Bounds.refuses(scene, d -> d.rename(0, 5, 2, 9), -5);
    }

    private static void renameSorts() {
        Scene scene = Scenes.EMPTY.then(EdgesOfMovingTest::deep).then(d -> {
            d.makeLink(0, 6, 0, 4, 0);
            d.makeFolder(0, 7);
        });
        // File 5, link 6, and the folders 4 and 7 (without ENTRIES) and 1 (with one).
        int[] sorts = {4, 5, 6, 7};
        for (int from : sorts) {
            for (int to : sorts) {
                boolean isFolder = from == 4 || from == 7;
                boolean toFolder = to == 4 || to == 7;
                if (isFolder == toFolder) {
                    Bounds.tells(scene, d -> d.rename(0, from, 0, to), from);
                } else {
                    Bounds.refuses(scene, d -> d.rename(0, from, 0, to), -3);
                }
            }
        }
        // -3 ahead of -4, and of -7 and -8.
        Bounds.refuses(scene, d -> d.rename(0, 5, 0, 1), -3);
        Bounds.refuses(scene, d -> d.rename(0, 6, 0, 1), -3);
        Bounds.refuses(Scenes.room(0).then(d -> d.setQuota(0, 0)), d -> d.rename(0, 7, 0, 8), -3);
        // It stays -3 in a folder with 12 ENTRIES.
        Scene twelve = Scenes.entries(12);
        Bounds.refuses(twelve.then(d -> d.makeFolder(0, 3)), d -> d.rename(0, 3, 2, 10), -3);
        Bounds.tells(twelve, d -> d.rename(0, 1, 2, 10), 1);
    }

    private static void renameNotEmpty() {
        Scene scene = EdgesOfMovingTest::deep;
        Bounds.tells(scene, d -> d.rename(2, 1, 0, 4), 3);
        Bounds.refuses(scene, d -> d.rename(0, 4, 0, 1), -4);
        Bounds.refuses(scene, d -> d.rename(0, 4, 1, 1), -4);
        Bounds.tells(scene, d -> d.rename(0, 4, 2, 1), 4);
        // The one ENTRY that the folder has is the one that is moved: it has it all the same.
        Bounds.refuses(scene, d -> d.rename(1, 1, 0, 1), -4);
        Bounds.refuses(scene, d -> d.rename(2, 1, 1, 1), -4);
        Bounds.refuses(Scenes.entries(12).then(d -> d.makeFolder(0, 3)), d -> d.rename(0, 3, 0, 2), -4);
        // -4 ahead of -8, and of -7 as well: it is told with all 120 BLOCKS USED.
        Scene full = Scenes.room(2).then(d -> {
            d.makeFolder(8, 1);
            d.makeFolder(9, 1);
            d.setQuota(0, 0);
        });
        Bounds.tells(full, JournalDisk::used, 120);
        Bounds.refuses(full, d -> d.rename(9, 1, 0, 8), -4);
        Bounds.refuses(full, d -> d.rename(9, 1, 8, 1), -4);
    }

    private static void renameTooMany() {
        Bounds.tells(Scenes.entries(10), d -> d.rename(0, 1, 2, 99), 1);
        Bounds.tells(Scenes.entries(11), d -> d.rename(0, 1, 2, 99), 1);
        Bounds.tells(Scenes.entries(11).then(d -> d.rename(0, 1, 2, 99)), d -> d.sizeOf(2), 12);
        Bounds.refuses(Scenes.entries(12), d -> d.rename(0, 1, 2, 99), -5);
        // With an ENTRY of this name, and within the same folder, 12 are not too many.
        Bounds.tells(Scenes.entries(12), d -> d.rename(0, 1, 2, 21), 1);
        Bounds.tells(Scenes.entries(12).then(d -> d.rename(0, 1, 2, 21)), d -> d.sizeOf(2), 12);
        Bounds.tells(Scenes.entries(12), d -> d.rename(2, 10, 2, 99), 3);
        Bounds.tells(Scenes.entries(12), d -> d.rename(2, 10, 2, 21), 3);
        Bounds.tells(Scenes.entries(12).then(d -> d.rename(2, 10, 2, 21)), d -> d.sizeOf(2), 11);
        Bounds.tells(Scenes.rootEntries(12), d -> d.rename(0, 1, 0, 99), 1);
        // -5 ahead of -8.
        Bounds.refuses(Scenes.entries(12).then(d -> d.setQuota(0, 0)), d -> d.rename(0, 1, 2, 99), -5);
    }

    private static void renameRoom() {
        // The ROOT has 8 ENTRIES, and takes 2 BLOCKS with 7 as well; folder 8 takes one with the first.
        Bounds.refuses(Scenes.room(0), d -> d.rename(0, 7, 8, 1), -7);
        Bounds.refuses(Scenes.room(0), d -> d.rename(0, 2, 8, 1), -7);
        for (int spare = 1; spare <= 2; spare++) {
            Bounds.tells(Scenes.room(spare), d -> d.rename(0, 7, 8, 1), 7);
            Bounds.tells(Scenes.room(spare).then(d -> d.rename(0, 7, 8, 1)), JournalDisk::used, 121 - spare);
        }
        Bounds.tells(Scenes.room(0), d -> d.rename(0, 7, 0, 99), 7);
        // With 2, 3, 4 ENTRIES folder 8 needs no more, with the fifth it does.
        for (int many = 1; many <= 4; many++) {
            int count = many;
            Scene scene = Scenes.room(1).then(d -> {
                for (int k = 1; k <= count; k++) {
                    d.makeLink(8, k, 0, 0, 0);
                }
            });
            if (many < 4) {
                Bounds.tells(scene, d -> d.rename(0, 7, 8, 9), 7);
            } else {
                Bounds.refuses(scene, d -> d.rename(0, 7, 8, 9), -7);
            }
        }
    }

    private static void renameRoomWhole() {
        // The ninth ENTRY goes from the ROOT, which gives a BLOCK back, to folder 8, which takes it.
        Scene nine = Scenes.room(1).then(d -> d.makeLink(0, 9, 0, 0, 0));
        Bounds.tells(nine, JournalDisk::used, 120);
        Bounds.tells(nine, d -> d.rename(0, 9, 8, 1), 9);
        Bounds.tells(nine.then(d -> d.rename(0, 9, 8, 1)), JournalDisk::used, 120);
        // What is replaced leaves its BLOCKS: file 6 in folder 8 is replaced by file 7.
        Scene inside = Scenes.room(1).then(d -> d.rename(0, 6, 8, 1));
        Bounds.tells(inside, JournalDisk::used, 120);
        Bounds.tells(inside, d -> d.rename(0, 7, 8, 1), 7);
        Bounds.tells(inside.then(d -> d.rename(0, 7, 8, 1)), JournalDisk::used, 102);
        // The last ENTRY of a folder goes to the ROOT as its ninth one, or to another folder as its first one.
        Scene last = Scenes.room(1).then(d -> d.makeFolder(8, 1));
        Bounds.tells(last, JournalDisk::used, 120);
        Bounds.tells(last, d -> d.rename(8, 1, 0, 99), 9);
        Bounds.tells(last.then(d -> d.rename(8, 1, 0, 99)), JournalDisk::used, 120);
        Scene two = last.then(d -> d.makeFolder(8, 2));
        Bounds.refuses(two, d -> d.rename(8, 1, 0, 99), -7);
        Scene beside = Scenes.room(1).then(d -> {
            d.unlink(0, 7);
            d.makeFolder(0, 7);
            d.makeLink(8, 1, 0, 0, 0);
        });
        Bounds.tells(beside, JournalDisk::used, 120);
        Bounds.tells(beside, d -> d.rename(8, 1, 7, 1), 9);
        Bounds.tells(beside.then(d -> d.rename(8, 1, 7, 1)), JournalDisk::used, 120);
    }

    private static void renameQuota() {
        // File 1 goes from the ROOT of user 0 to folder 2 of user 1, which takes its first BLOCK.
        Scene scene = Scenes.entries(0).then(d -> {
            d.setOwner(2, 1);
            d.setQuota(0, 0);
        });
        Bounds.refuses(scene.then(d -> d.setQuota(1, 0)), d -> d.rename(0, 1, 2, 1), -8);
        Bounds.tells(scene.then(d -> d.setQuota(1, 1)), d -> d.rename(0, 1, 2, 1), 1);
        Bounds.tells(scene.then(d -> d.setQuota(1, 2)), d -> d.rename(0, 1, 2, 1), 1);
        // No more than now: folder 2 takes 1 BLOCK with 2 ENTRIES as well.
        Scene one = Scenes.entries(1).then(d -> {
            d.setOwner(2, 1);
            d.setQuota(1, 0);
        });
        Bounds.tells(one, d -> d.rename(0, 1, 2, 1), 1);
        Scene four = Scenes.entries(4).then(d -> {
            d.setOwner(2, 1);
            d.setQuota(1, 1);
        });
        Bounds.refuses(four, d -> d.rename(0, 1, 2, 1), -8);
        Bounds.tells(four.then(d -> d.setQuota(1, 2)), d -> d.rename(0, 1, 2, 1), 1);
        // The same user has the folder that gives one back: all in all no more than now.
        Scene within = Scenes.entries(0).then(d -> {
            d.makeFolder(0, 3);
            d.makeLink(3, 1, 0, 0, 0);
            d.setQuota(0, 0);
        });
        Bounds.tells(within, d -> d.rename(3, 1, 2, 1), 4);
        Bounds.refuses(within.then(d -> d.setOwner(3, 2)), d -> d.rename(3, 1, 2, 1), -8);
        // The moved file is counted for its own OWNER as before.
        Scene owned = Scenes.EMPTY.then(d -> {
            Given.file(d, 0, 1, 320);
            d.makeFolder(0, 2);
            d.setOwner(2, 1);
            d.setQuota(1, 1);
            d.setQuota(0, 0);
        });
        Bounds.tells(owned, d -> d.rename(0, 1, 2, 1), 1);
        Bounds.tells(owned.then(d -> d.rename(0, 1, 2, 1)), d -> d.usedBy(0), 21);
        Bounds.tells(owned.then(d -> d.rename(0, 1, 2, 1)), d -> d.usedBy(1), 1);
    }

    private static void renameOrder() {
        Scene poor = Scenes.room(0).then(d -> d.setQuota(0, 0));
        Bounds.refuses(poor, d -> d.rename(0, 7, 8, 1), -7);
        Bounds.refuses(poor.then(d -> d.punch(1, 0)), d -> d.rename(0, 7, 8, 1), -8);
        Bounds.refuses(poor, d -> d.rename(0, 9, 8, 1), -1);
        Bounds.refuses(poor, d -> d.rename(0, 8, 8, 1), -6);
        Bounds.refuses(poor, d -> d.rename(0, 7, 7, 1), -3);
        Bounds.refuses(poor, d -> d.rename(0, 7, 8, 100), Bounds.ARGUMENT);
    }

    private static void renameReplaces() {
        // File 1 (1, and 2 as well if it has 2 LINKS) is replaced by link 2 or 3.
        for (int links = 1; links <= 2; links++) {
            for (int handles = 0; handles <= 1; handles++) {
                JournalDisk d = new JournalDisk();
                Given.file(d, 0, 1, 40);
                d.makeLink(0, 5, 0, 0, 0);
                for (int k = 1; k < links; k++) {
                    d.addName(0, 2, 1);
                }
                for (int k = 0; k < handles; k++) {
                    d.open(1);
                }
                Check.is(d.rename(0, 5, 0, 1), 2);
                Check.is(d.lookup(0, 1), 2);
                Check.is(d.lookup(0, 5), -1);
                Check.is(d.linksOf(2), 1);
                Check.is(d.typeOf(1), links + handles > 1 ? 1 : 0);
                if (links + handles > 1) {
                    Check.is(d.linksOf(1), links - 1);
                    Check.is(d.isOrphan(1), links == 1);
                    Check.is(d.blocksOf(1), 3);
                }
                Check.is(d.used(), links + handles > 1 ? 4 : 1);
            }
        }
        // A link replaced is removed, as no handle is ever on it.
        JournalDisk d = Scenes.USUAL.made();
        Check.is(d.rename(2, 30, 2, 40), 3);
        Check.is(d.typeOf(4), 0);
        Check.is(d.sizeOf(2), 2);
        Check.is(d.makeFile(2, 1), 4);
    }

    private static void renameReplacesFolder() {
        JournalDisk d = new JournalDisk();
        deep(d);
        Check.is(d.rename(1, 1, 0, 4), 2);
        Check.is(d.typeOf(4), 0);
        Check.is(d.parentOf(2), 0);
        Check.is(d.depthOf(3), 2);
        Check.is(d.lookup(0, 4), 2);
        Check.is(d.sizeOf(1), 0);
        Check.is(d.sizeOf(0), 3);
        Check.is(d.linksOf(2), 1);
        Check.is(d.makeLink(3, 1, 0, 0, 0), 4);
    }

    // ---- promise 10

    private static void exchangeNames() {
        int[] names = {1, 2, 50, 98, 99};
        Scene scene = Scenes.EMPTY.then(d -> {
            d.makeFolder(0, 10);
            d.makeFile(1, 10);
            for (int name : names) {
                d.makeLink(0, name, 0, 0, 0);
            }
        });
        Bounds.range(scene, 1, 99, (d, x) -> d.exchange(0, x, 1, 10), x -> 2);
        Bounds.range(scene, 1, 99, (d, x) -> d.exchange(1, 10, 0, x), x -> x < 50 ? x + 2 : x == 50 ? 5 : x - 92);
        Bounds.wrong(Scenes.USUAL, 1, 99, (d, x) -> d.exchange(0, x, 2, 30));
        Bounds.wrong(Scenes.USUAL, 1, 99, (d, x) -> d.exchange(0, 10, 2, x));
        Bounds.wrong(Scenes.USUAL, 1, 99, (d, x) -> d.exchange(1, x, 1, x));
        Bounds.wrong(Scenes.USUAL, 1, 99, (d, x) -> d.exchange(0, 11, 1, x));
    }

    private static void exchangeNodes() {
        Bounds.noNode((d, x) -> d.exchange(x, 10, 0, 10));
        Bounds.noNode((d, x) -> d.exchange(0, 10, x, 10));
        Bounds.noNode((d, x) -> d.exchange(x, 0, x, 0));
        Bounds.noNode((d, x) -> d.exchange(1, 0, x, 100));
        Bounds.noNode((d, x) -> d.exchange(x, 100, 1, 0));
    }

    private static void exchangeNoFolder() {
        for (int node : new int[] {1, 3, 4, 5, 6}) {
            Bounds.refuses(Scenes.USUAL, d -> d.exchange(node, 10, 0, 10), -3);
            Bounds.refuses(Scenes.USUAL, d -> d.exchange(0, 10, node, 10), -3);
            // Ahead of -1.
            Bounds.refuses(Scenes.USUAL, d -> d.exchange(0, 11, node, 10), -3);
            Bounds.refuses(Scenes.USUAL, d -> d.exchange(node, 11, 0, 11), -3);
        }
    }

    private static void exchangeMissing() {
        for (int name : new int[] {1, 9, 11, 19, 21, 99}) {
            Bounds.refuses(Scenes.USUAL, d -> d.exchange(0, name, 2, 30), -1);
            Bounds.refuses(Scenes.USUAL, d -> d.exchange(2, 30, 0, name), -1);
            Bounds.refuses(Scenes.USUAL, d -> d.exchange(0, name, 0, name), -1);
            // Ahead of -6: folder 2 would come into itself.
            Bounds.refuses(Scenes.USUAL, d -> d.exchange(0, 20, 2, name), -1);
        }
    }

    private static void exchangeRound() {
        // Folder 1 holds 2 holds 3; each has a file named 8 as well.
        Scene scene = Scenes.EMPTY.then(EdgesOfMovingTest::deep).then(d -> {
            for (int folder = 0; folder <= 4; folder++) {
                d.makeFile(folder, 8);
            }
        });
        for (int under = 1; under <= 3; under++) {
            int folder = under;
            Bounds.refuses(scene, d -> d.exchange(0, 1, folder, 8), -6);
            Bounds.refuses(scene, d -> d.exchange(folder, 8, 0, 1), -6);
        }
        // With what is UNDER it, also a folder.
        Bounds.refuses(scene, d -> d.exchange(0, 1, 1, 1), -6);
        Bounds.refuses(scene, d -> d.exchange(1, 1, 0, 1), -6);
        Bounds.refuses(scene, d -> d.exchange(0, 1, 2, 1), -6);
        Bounds.refuses(scene, d -> d.exchange(2, 1, 0, 1), -6);
        // Folder 2 with what is beside it, above it, and elsewhere.
        Bounds.tells(scene, d -> d.exchange(1, 1, 1, 8), 7);
        Bounds.tells(scene, d -> d.exchange(1, 1, 0, 8), 6);
        Bounds.tells(scene, d -> d.exchange(1, 1, 4, 8), 10);
        Bounds.tells(scene, d -> d.exchange(4, 8, 1, 1), 2);
        Bounds.tells(scene, d -> d.exchange(1, 1, 0, 4), 4);
        Bounds.tells(scene, d -> d.exchange(0, 4, 1, 1), 2);
        Bounds.tells(scene, d -> d.exchange(0, 4, 2, 1), 3);
        Bounds.refuses(scene, d -> d.exchange(0, 4, 4, 8), -6);
        Bounds.refuses(scene, d -> d.exchange(2, 1, 3, 8), -6);
        Bounds.tells(scene, d -> d.exchange(2, 1, 2, 8), 8);
    }

    private static void exchangeSame() {
        Scene usual = Scenes.USUAL;
        Scene change = usual.then(d -> d.setQuota(3, 50));
        int[][] own = {{0, 10, 1}, {0, 20, 2}, {2, 30, 3}, {2, 40, 4}, {2, 50, 5}};
        for (int[] entry : own) {
            Bounds.tells(usual, d -> d.exchange(entry[0], entry[1], entry[0], entry[1]), entry[2]);
            Bounds.meet(usual.then(d -> d.exchange(entry[0], entry[1], entry[0], entry[1])), change);
        }
        Scene two = usual.then(d -> d.addName(0, 5, 4));
        Bounds.tells(two, d -> d.exchange(0, 5, 2, 40), 4);
        Bounds.meet(two.then(d -> d.exchange(0, 5, 2, 40)), two.then(d -> d.setQuota(3, 50)));
        // Twice, and all is as it was.
        Scene twice = usual.then(d -> {
            d.exchange(0, 10, 2, 40);
            d.exchange(0, 10, 2, 40);
        });
        Bounds.meet(twice, change.then(d -> d.setQuota(3, 50)));
    }

    private static void exchangePoor() {
        Scene poor = Scenes.room(1).then(d -> {
            d.makeLink(8, 1, 0, 0, 0);
            d.setOwner(8, 1);
            d.setQuota(0, 0);
            d.setQuota(1, 0);
        });
        Bounds.tells(poor, JournalDisk::used, 120);
        Bounds.tells(poor, d -> d.exchange(0, 2, 8, 1), 9);
        Scene behind = poor.then(d -> d.exchange(0, 2, 8, 1));
        Bounds.tells(behind, JournalDisk::used, 120);
        Bounds.tells(behind, d -> d.usedBy(0), 119);
        Bounds.tells(behind, d -> d.usedBy(1), 1);
    }

    private static void exchangeParents() {
        JournalDisk d = new JournalDisk();
        deep(d);
        Check.is(d.exchange(1, 1, 0, 4), 4);
        Check.is(d.parentOf(2), 0);
        Check.is(d.parentOf(4), 1);
        Check.is(d.parentOf(3), 2);
        Check.is(d.depthOf(3), 2);
        Check.is(d.depthOf(4), 2);
        Check.is(d.linksOf(2), 1);
        Check.is(d.linksOf(4), 1);
        Check.is(d.exchange(2, 1, 0, 5), 5);
        Check.is(d.parentOf(3), 0);
        Check.is(d.lookup(2, 1), 5);
        Check.is(d.lookup(0, 5), 3);
        Check.is(d.linksOf(5), 1);
        Check.is(d.sizeOf(0), 3);
        Check.is(d.sizeOf(2), 1);
        Check.is(d.nodes(), 6);
    }
}
