/** The terms, points 1 to 6, at their edges, as far as they are not those of one promise. */
public final class EdgesOfTermsTest {
    public static void main(String[] args) {
        Check.test("point 1: the ROOT is always there", EdgesOfTermsTest::root);
        Check.test("point 1: 12 ENTRIES, 32 nodes, 6 LINKS at once", EdgesOfTermsTest::most);
        Check.test("point 1: a new node gets the smallest number", EdgesOfTermsTest::smallest);
        Check.test("point 1: a name is one of its folder alone", EdgesOfTermsTest::names);
        Check.test("point 1: removed at once, or an ORPHAN", EdgesOfTermsTest::removed);
        Check.test("point 2: SIZE 0 to 320, zeros behind it", EdgesOfTermsTest::sizes);
        Check.test("point 2: places behind SIZE have HOLEs", EdgesOfTermsTest::behindSize);
        Check.test("point 2: two places never have the same BLOCK", EdgesOfTermsTest::oneBlock);
        Check.test("point 2: 120 BLOCKS, and 120 of a user", EdgesOfTermsTest::allBlocks);
        Check.test("point 3: a CHANGE also if nothing is other", EdgesOfTermsTest::idle);
        Check.test("point 3: -8 needs both, more than now and than the QUOTA", EdgesOfTermsTest::moreThanNow);
        Check.test("point 3: what a removed node leaves", EdgesOfTermsTest::leaves);
        Check.test("point 4: what throws while it is DOWN", EdgesOfTermsTest::whileDown);
        Check.test("point 5: at most 6 handles, and locks of each", EdgesOfTermsTest::sixHandles);
        Check.test("point 5: no byte is locked against another", EdgesOfTermsTest::lockPairs);
        Check.test("point 6: up 0 to 3, and no further than the ROOT", EdgesOfTermsTest::up);
        Check.test("point 6: 7, 8, 9 links by first names", EdgesOfTermsTest::firstNames);
        Check.test("point 6: 7, 8, 9 links by second names", EdgesOfTermsTest::secondNames);
        Check.test("point 6: 7, 8, 9 links by both", EdgesOfTermsTest::bothNames);
        Check.test("point 6: the first that happens on the way", EdgesOfTermsTest::firstOnTheWay);
        Check.test("point 6: from the folder of the ENTRY", EdgesOfTermsTest::fromFolder);
        Check.end();
    }

    // ---- point 1

    private static void root() {
        JournalDisk d = Scenes.USUAL.made();
        Check.is(d.typeOf(0), 2);
        Check.is(d.linksOf(0), 0);
        Check.is(d.parentOf(0), 0);
        Check.is(d.depthOf(0), 0);
        Check.is(d.isOrphan(0), false);
        // It has no ENTRY, and gets none.
        Bounds.refuses(Scenes.USUAL, x -> x.addName(0, 5, 0), -3);
        Bounds.refuses(Scenes.USUAL, x -> x.addName(2, 5, 0), -3);
        // Empty again, or behind a mount(), it is still there.
        Scene empty = Scenes.rootEntries(1).then(x -> x.unlink(0, 1));
        Bounds.tells(empty, x -> x.typeOf(0), 2);
        Bounds.tells(empty, JournalDisk::nodes, 1);
        Bounds.tells(empty.then(JournalDisk::sync).then(JournalDisk::cut), JournalDisk::mount, 0);
        Bounds.tells(empty.then(JournalDisk::cut).then(JournalDisk::mount), x -> x.typeOf(0), 2);
    }

    private static void most() {
        // Files 1 to 5 with 6 LINKS each in the folders 6 to 8: 30 ENTRIES, and the ROOT has 3 folders.
        Scene scene = d -> {
            for (int n = 0; n < 3; n++) {
                d.makeFolder(0, 1 + n);
            }
            for (int n = 0; n < 5; n++) {
                d.makeFile(1 + n % 3, 10 + n);
                for (int k = 1; k < 6; k++) {
                    d.addName(1 + (n + k) % 3, 10 * (1 + k) + n, 4 + n);
                }
            }
        };
        JournalDisk d = scene.made();
        Check.is(d.nodes(), 9);
        for (int n = 4; n <= 8; n++) {
            Check.is(d.linksOf(n), 6);
        }
        Check.is(d.sizeOf(1) + d.sizeOf(2) + d.sizeOf(3), 30);
        Check.is(d.unlink(1, 10), 5);
        JournalDisk c = Scenes.nodes(32).made();
        Check.is(c.nodes(), 32);
        Check.is(c.sizeOf(0), 12);
        Check.is(c.makeFile(0, 99), -5);
        Check.is(c.makeFile(1, 99), -3);
        Check.is(c.addName(3, 99, 1), 2);
        Check.is(c.unlink(3, 99), 1);
        Check.is(c.unlink(0, 1), 0);
        Check.is(c.makeFile(0, 99), 1);
    }

    private static void smallest() {
        JournalDisk d = new JournalDisk();
        for (int n = 1; n <= 12; n++) {
            Check.is(d.makeFile(0, n), n);
        }
        int[] gone = {12, 1, 7, 6};
        for (int n : gone) {
            d.unlink(0, n);
        }
        int[] due = {1, 6, 7, 12};
        for (int k = 0; k < due.length; k++) {
            Check.is(d.makeFile(0, 50 + k), due[k]);
        }
        // The number of an ORPHAN is not free.
        d.open(3);
        d.unlink(0, 3);
        Check.is(d.makeFolder(0, 3), 13);
        d.close(0);
        Check.is(d.makeFile(13, 3), 3);
    }

    private static void names() {
        JournalDisk d = new JournalDisk();
        Check.is(d.makeFolder(0, 99), 1);
        Check.is(d.makeFolder(1, 99), 2);
        Check.is(d.makeFile(2, 99), 3);
        Check.is(d.makeFile(2, 99), -2);
        Check.is(d.makeFile(2, 98), 4);
        Check.is(d.lookup(0, 99), 1);
        Check.is(d.lookup(1, 99), 2);
        Check.is(d.lookup(2, 99), 3);
        Check.is(d.unlink(2, 99), 0);
        Check.is(d.makeLink(2, 99, 0, 0, 0), 3);
    }

    private static void removed() {
        // By unlink(), by rename() over it, and by close().
        for (int way = 0; way < 2; way++) {
            for (int handles = 0; handles <= 2; handles++) {
                JournalDisk d = new JournalDisk();
                Given.file(d, 0, 1, 16);
                d.makeLink(0, 2, 0, 0, 0);
                for (int h = 0; h < handles; h++) {
                    d.open(1);
                }
                Check.is(way == 0 ? d.unlink(0, 1) : d.rename(0, 2, 0, 1), way == 0 ? 0 : 2);
                for (int h = 0; h < handles; h++) {
                    Check.is(d.typeOf(1), 1);
                    Check.is(d.isOrphan(1), true);
                    Check.is(d.byteAt(1, 15), 16);
                    Check.is(d.used(), 2);
                    Check.is(d.close(h), 1);
                }
                Check.is(d.typeOf(1), 0);
                Check.is(d.used(), 1);
            }
        }
        // An ORPHAN can be written, read, cloned, shared and owned, but gets no name again.
        JournalDisk d = Scenes.USUAL.made();
        Check.is(d.write(0, 8, 1), 17);
        Check.is(d.truncate(6, 32), 17);
        Check.is(d.share(6, 0, 1, 0), 1);
        Check.is(d.setOwner(6, 2), 0);
        Check.is(d.punch(6, 1), 1);
        Check.is(d.addName(0, 5, 6), -1);
        Check.is(d.linksOf(6), 0);
    }

    // ---- point 2

    private static void sizes() {
        // Shorter by and by, and then as long as at first.
        int[] sizes = {320, 319, 305, 304, 303, 17, 16, 15, 1, 0};
        for (int last = 0; last < sizes.length; last++) {
            JournalDisk d = new JournalDisk();
            Given.file(d, 0, 1, 320);
            for (int k = 0; k <= last; k++) {
                d.truncate(1, sizes[k]);
                Check.is(d.sizeOf(1), sizes[k]);
            }
            d.truncate(1, 320);
            for (int place = 0; place < 320; place++) {
                Check.is(d.byteAt(1, place), place < sizes[last] ? (place + 1) % 256 : 0);
            }
        }
    }

    private static void behindSize() {
        for (int size = 300; size <= 320; size++) {
            int bytes = size;
            JournalDisk d = Scenes.EMPTY.then(x -> Given.file(x, 0, 1, bytes)).made();
            for (int place = 0; place < 20; place++) {
                Check.is(d.isHole(1, place), place * 16 >= size);
            }
        }
        // share() gives a place only where it ends ahead of SIZE, so there are never BLOCKS behind it.
        Bounds.refuses(Scenes.USUAL, d -> d.share(6, 1, 1, 0), -5);
    }

    private static void oneBlock() {
        // A place in 2 files, another one in 2: all ways to bring both into one file.
        JournalDisk d = Scenes.EMPTY.then(x -> {
            Given.file(x, 0, 1, 64);
            x.cloneFile(0, 2, 1);
        }).made();
        for (int place = 0; place < 4; place++) {
            for (int from = 0; from < 4; from++) {
                Check.is(d.share(2, place, 1, from), place == from ? 1 : -6);
                Check.is(d.share(1, place, 1, from), place == from ? 1 : -6);
            }
        }
        Check.is(d.sharedOf(1), 4);
        Check.is(d.used(), 5);
        Check.is(d.waiting(), 3);
    }

    private static void allBlocks() {
        // 6 files of 20 places would be 120, but their ENTRIES need 2: the last two are not to be had.
        JournalDisk d = Scenes.room(0).made();
        Check.is(d.used(), 120);
        Check.is(d.blocksUnder(0), 120);
        Check.is(d.wouldFree(0), 120);
        Check.is(d.usedBy(0), 120);
        Check.is(d.open(6), 0);
        d.seek(0, 288);
        Check.is(d.write(0, 1, 1), -7);
        Check.is(d.truncate(6, 320), 288);
        Check.is(d.write(0, 1, 1), -7);
        d.seek(0, 287);
        Check.is(d.write(0, 1, 1), 320);
        Check.is(d.write(0, 1, 1), -7);
        Check.is(d.unlink(0, 7), 0);
        Check.is(d.write(0, 1, 1), -7);
        Check.is(d.punch(1, 0), 1);
        Check.is(d.write(0, 1, 1), 320);
        Check.is(d.used(), 120);
    }

    // ---- point 3

    private static void idle() {
        Scene.Ask[] calls = {
            d -> d.rename(0, 10, 0, 10), d -> d.exchange(0, 10, 0, 10), d -> d.truncate(1, 40), d -> d.punch(1, 19),
            d -> d.share(3, 0, 3, 0), d -> d.setOwner(1, 0), d -> d.setQuota(0, 120), d -> d.setQuota(3, 50)
        };
        int[] due = {1, 1, 40, 0, 1, 0, 120, 50};
        for (int k = 0; k < calls.length; k++) {
            Scene.Ask call = calls[k];
            Bounds.tells(Scenes.USUAL, call, due[k]);
            Scene behind = Scenes.USUAL.then(d -> Scene.answer(d, call));
            Bounds.tells(behind, JournalDisk::waiting, 3);
            Bounds.tells(behind, JournalDisk::changes, 14);
            Bounds.meet(behind, Scenes.USUAL.then(d -> d.setQuota(3, 50)));
        }
        // Writing the very bytes that are there.
        Scene same = Scenes.USUAL.then(d -> d.write(1, 3, 8));
        Bounds.tells(same.then(d -> d.unlink(2, 50)), JournalDisk::waiting, 4);
    }

    private static void moreThanNow() {
        // User 0 USES 1 for the ROOT. With 0 to 3 of QUOTA it may have 0 to 2 BLOCKS more, or less.
        for (int quota = 0; quota <= 3; quota++) {
            int most = quota;
            for (int more = 0; more <= 3; more++) {
                int places = more;
                Scene scene = Scenes.rootEntries(1).then(d -> d.open(1)).then(d -> d.setQuota(0, most));
                if (more > 0) {
                    Object due = 1 + more > quota ? -8 : more * 16;
                    Bounds.tells(scene, d -> d.write(0, places * 16, 1), due);
                }
            }
        }
        // More than the QUOTA, but less than now, or as much as now.
        Scene much = Scenes.EMPTY.then(d -> Given.file(d, 0, 1, 64)).then(d -> d.setQuota(0, 2));
        Bounds.tells(much, d -> d.usedBy(0), 5);
        Bounds.tells(much, d -> d.truncate(1, 33), 64);
        Bounds.tells(much, d -> d.truncate(1, 48), 64);
        Bounds.tells(much, d -> d.makeFile(0, 2), 2);
        Bounds.tells(much, d -> d.setOwner(1, 0), 0);
        Bounds.tells(much, d -> d.share(1, 0, 1, 0), 1);
        // One user would use less, another one more than its QUOTA: all in all it is hindered.
        Scene two = much.then(d -> d.setQuota(3, 3));
        Bounds.refuses(two, d -> d.setOwner(1, 3), -8);
        Bounds.tells(two.then(d -> d.setQuota(3, 4)), d -> d.setOwner(1, 3), 0);
    }

    private static void leaves() {
        // File 6 is full; what it leaves can be had by others at once.
        JournalDisk d = Scenes.room(0).made();
        Check.is(d.makeFile(0, 9), -7);
        Check.is(d.unlink(0, 6), 0);
        Check.is(d.typeOf(6), 0);
        Check.is(d.used(), 102);
        Check.is(d.makeFile(0, 9), 6);
        Check.is(d.blocksOf(6), 0);
        Check.is(d.open(6), 0);
        for (int k = 0; k < 4; k++) {
            Check.is(d.write(0, 64, 9), 64 * (k + 1));
        }
        Check.is(d.used(), 118);
        Check.is(d.write(0, 33, 9), -7);
        Check.is(d.write(0, 32, 9), 288);
        Check.is(d.used(), 120);
    }

    // ---- point 4

    private static void whileDown() {
        Scene.Ask[] calls = {
            d -> d.makeFile(0, 1), d -> d.makeFolder(0, 1), d -> d.makeLink(0, 1, 0, 0, 0),
            d -> d.cloneFile(0, 1, 1), d -> d.addName(0, 1, 1), d -> d.unlink(0, 10), d -> d.removeFolder(0, 20),
            d -> d.rename(0, 10, 0, 1), d -> d.exchange(0, 10, 0, 20), d -> d.write(0, 1, 1),
            d -> d.truncate(1, 1), d -> d.punch(1, 0), d -> d.share(1, 0, 1, 0), d -> d.setOwner(1, 1),
            d -> d.setQuota(1, 1), d -> d.open(1), d -> d.close(0), d -> d.seek(0, 1), d -> d.read(0, 1),
            d -> d.lock(0, 0, 1, true), d -> d.unlock(0, 0, 1), d -> d.whoHinders(0, 0, 1, true),
            d -> d.lockRows(0), d -> d.lockAt(1, 0), d -> d.nodeOf(0), d -> d.positionOf(0), JournalDisk::handles,
            JournalDisk::sync, JournalDisk::flush, d -> {
                d.writeBack(1, 1);
                return 0;
            }, d -> {
                d.cut();
                return 0;
            }, JournalDisk::waiting, JournalDisk::changes, JournalDisk::nodes, d -> d.typeOf(0), d -> d.linksOf(0),
            d -> d.ownerOf(0), d -> d.sizeOf(0), d -> d.blocksOf(0), d -> d.sharedOf(0), d -> d.byteAt(1, 0),
            d -> d.isHole(1, 0), d -> d.nextData(1, 0), d -> d.nextHole(1, 0), d -> d.sameBytes(1, 1),
            d -> d.lookup(0, 10), d -> d.follow(0, 10), d -> d.nameAt(0, 0), d -> d.parentOf(0), d -> d.depthOf(0),
            d -> d.isOrphan(1), d -> d.blocksUnder(0), d -> d.wouldFree(0), JournalDisk::used, d -> d.usedBy(0),
            d -> d.quotaOf(0), JournalDisk::greatestFile, JournalDisk::meanSize, JournalDisk::flaws,
            JournalDisk::digest
        };
        // All 64 methods but isDown(), mount(), fail() and mounts().
        Check.is(calls.length, 60);
        for (Scene.Ask call : calls) {
            Bounds.down(call);
            Check.is(String.valueOf(Scene.answer(Scenes.USUAL.made(), call)).startsWith("throws"), false);
        }
        JournalDisk d = Scenes.DOWN.made();
        Check.is(d.isDown(), true);
        Check.is(d.mounts(), 1);
        d.fail(0, 1, 1);
        Check.is(d.mount(), 1);
        Check.is(d.isDown(), false);
    }

    // ---- point 5

    private static void sixHandles() {
        JournalDisk d = Scenes.EMPTY.then(x -> Given.file(x, 0, 1, 320)).made();
        for (int h = 0; h < 6; h++) {
            Check.is(d.open(1), h);
            Check.is(d.seek(h, 53 * h), 0);
            Check.is(d.lock(h, 53 * h, 53, true), true);
        }
        Check.is(d.open(1), -5);
        for (int h = 0; h < 6; h++) {
            Check.is(d.positionOf(h), 53 * h);
            Check.is(d.lockRows(h), 1);
            Check.is(d.unlock(h, 0, 320), 53);
        }
        Check.is(d.handles(), 6);
    }

    private static void lockPairs() {
        // Both handles try each sort on the bytes 0 to 2, in all ways: what stands never hinders what stands.
        for (int run = 0; run < 1296; run++) {
            JournalDisk d = Scenes.EMPTY.then(x -> Given.file(x, 0, 1, 16)).made();
            d.open(1);
            d.open(1);
            int[][] locks = new int[2][3];
            int rest = run;
            for (int step = 0; step < 2; step++) {
                int handle = rest % 2;
                int from = rest / 2 % 3;
                int length = 1 + rest / 6 % (3 - from);
                boolean isExclusive = rest / 18 % 2 == 1;
                rest /= 36;
                boolean isFree = true;
                for (int at = from; at < from + length; at++) {
                    int other = locks[1 - handle][at];
                    isFree = isFree && (other == 0 || (other == 1 && !isExclusive));
                }
                Check.is(d.lock(handle, from, length, isExclusive), isFree);
                for (int at = from; isFree && at < from + length; at++) {
                    locks[handle][at] = isExclusive ? 2 : 1;
                }
            }
            for (int at = 0; at < 3; at++) {
                Check.is(d.lockAt(1, at), Math.max(locks[0][at], locks[1][at]));
                Check.is(d.unlock(0, at, 1), locks[0][at] > 0 ? 1 : 0);
                Check.is(d.unlock(1, at, 1), locks[1][at] > 0 ? 1 : 0);
            }
        }
    }

    // ---- point 6

    /** The folders 1 to 5, each named 1 and in the one ahead of it. */
    private static void deep(JournalDisk d) {
        for (int k = 0; k < 5; k++) {
            d.makeFolder(k, 1);
        }
    }

    private static void up() {
        for (int folder = 0; folder <= 5; folder++) {
            for (int up = -1; up <= 3; up++) {
                int in = folder;
                int times = up;
                Scene scene = Scenes.EMPTY.then(EdgesOfTermsTest::deep).then(d -> d.makeLink(in, 9, times, 0, 0));
                int due = up < 0 ? 0 : Math.max(0, folder - up);
                Bounds.tells(scene, d -> d.follow(in, 9), due);
                // With a first name the folder below that is found, if there is one.
                Scene first = Scenes.EMPTY.then(EdgesOfTermsTest::deep).then(d -> d.makeLink(in, 9, times, 1, 0));
                Bounds.tells(first, d -> d.follow(in, 9), due == 5 ? -1 : due + 1);
                Scene both = Scenes.EMPTY.then(EdgesOfTermsTest::deep).then(d -> d.makeLink(in, 9, times, 1, 1));
                Bounds.tells(both, d -> d.follow(in, 9), due >= 4 ? -1 : due + 2);
            }
        }
    }

    /** Link k of the ROOT (named 10 + k) leads to link k - 1, and link 1 to the file 1, named 1. */
    private static Scene chain(int many) {
        return d -> {
            d.makeFile(0, 1);
            for (int k = 1; k <= many; k++) {
                d.makeLink(0, 10 + k, 0, k == 1 ? 1 : 9 + k, 0);
            }
        };
    }

    private static void firstNames() {
        for (int many = 1; many <= 11; many++) {
            int last = 10 + many;
            Bounds.tells(chain(11), d -> d.follow(0, last), many <= 8 ? 1 : -6);
        }
        // The last one leads to a folder, or to itself.
        Scene folder = chain(9).then(d -> d.unlink(0, 1)).then(d -> d.makeFolder(0, 1));
        Bounds.tells(folder, d -> d.follow(0, 18), 1);
        Bounds.tells(folder, d -> d.follow(0, 19), -6);
        Scene round = d -> d.makeLink(0, 1, 0, 1, 0);
        Bounds.tells(round, d -> d.follow(0, 1), -6);
        Scene pair = d -> {
            d.makeLink(0, 1, 0, 2, 0);
            d.makeLink(0, 2, 0, 1, 0);
        };
        Bounds.tells(pair, d -> d.follow(0, 1), -6);
        Bounds.tells(pair, d -> d.follow(0, 2), -6);
    }

    private static void secondNames() {
        // Folder 1 (named 1) has link k (10 + k) with the first name of a folder in it, and the one ahead as second.
        Scene scene = d -> {
            d.makeFolder(0, 1);
            d.makeFile(1, 1);
            d.makeFolder(1, 2);
            d.makeFile(3, 9);
            for (int k = 1; k <= 10; k++) {
                d.makeLink(1, 10 + k, 1, 1, k == 1 ? 1 : 9 + k);
            }
        };
        for (int many = 1; many <= 10; many++) {
            int last = 10 + many;
            Bounds.tells(scene, d -> d.follow(1, last), many <= 8 ? 2 : -6);
        }
    }

    private static void bothNames() {
        // Link 11 leads to the ROOT; 12 goes by it twice (3 links), 13 by 12 and 11 (5), and so on.
        Scene scene = d -> {
            d.makeLink(0, 11, 0, 0, 0);
            d.makeLink(0, 12, 0, 11, 11);
            d.makeLink(0, 13, 0, 12, 11);
            d.makeLink(0, 14, 0, 13, 11);
            d.makeLink(0, 15, 0, 14, 11);
            d.makeLink(0, 16, 0, 14, 0);
            d.makeLink(0, 17, 0, 16, 0);
            d.makeLink(0, 18, 0, 12, 12);
            d.makeLink(0, 19, 0, 18, 0);
            d.makeLink(0, 20, 0, 11, 19);
            d.makeLink(0, 21, 0, 19, 0);
        };
        // The links in all: 1, 3, 5, 7, then 9; 8, then 9; 7, 8, and 10 or 9.
        int[] due = {0, 0, 0, 0, -6, 0, -6, 0, 0, -6, -6};
        for (int k = 0; k < due.length; k++) {
            int name = 11 + k;
            Bounds.tells(scene, d -> d.follow(0, name), due[k]);
        }
    }

    private static void firstOnTheWay() {
        // The eighth link leads to nothing: -1; it is come to as the ninth one: -6.
        Scene broken = chain(9).then(d -> d.unlink(0, 1));
        Bounds.tells(broken, d -> d.follow(0, 18), -1);
        Bounds.tells(broken, d -> d.follow(0, 19), -6);
        // Behind a file nothing is looked for: -3 ahead of -1.
        Scene file = chain(8).then(d -> d.makeLink(0, 50, 0, 1, 77));
        Bounds.tells(file, d -> d.follow(0, 50), -3);
        // A first name that is missing: -1, though the second one would be one in a file.
        Scene missing = chain(8).then(d -> d.makeLink(0, 50, 0, 77, 1));
        Bounds.tells(missing, d -> d.follow(0, 50), -1);
        // The eighth link finds a file, which must be a folder: -3, and no ninth one is come to.
        Scene eighth = chain(7).then(d -> d.makeLink(0, 50, 0, 17, 11));
        Bounds.tells(eighth, d -> d.follow(0, 50), -3);
        // The ROOT instead of the file: the second name leads to the ninth link.
        Scene ninth = eighth.then(d -> d.unlink(0, 1)).then(d -> d.makeLink(0, 1, 0, 0, 0));
        Bounds.tells(ninth, d -> d.follow(0, 17), 0);
        Bounds.tells(ninth, d -> d.follow(0, 50), -6);
        // By a second name that is missing: -1, as there is no ninth link to come to.
        Scene less = chain(6).then(d -> d.unlink(0, 1)).then(d -> {
            d.makeLink(0, 1, 0, 0, 0);
            d.makeLink(0, 50, 0, 16, 77);
        });
        Bounds.tells(less, d -> d.follow(0, 16), 0);
        Bounds.tells(less, d -> d.follow(0, 50), -1);
    }

    private static void fromFolder() {
        // One link with a name in each of the folders 0 to 3: the folder of the ENTRY counts, not where it was made.
        Scene scene = Scenes.EMPTY.then(EdgesOfTermsTest::deep).then(d -> {
            d.makeLink(2, 9, 1, 0, 0);
            d.addName(0, 9, 6);
            d.addName(1, 9, 6);
            d.addName(3, 9, 6);
            d.addName(5, 9, 6);
        });
        int[] due = {0, 0, 1, 2, -1, 4};
        for (int folder = 0; folder <= 5; folder++) {
            int in = folder;
            Bounds.tells(scene, d -> d.follow(in, 9), due[folder]);
        }
        // Found by way of another link it is followed from the folder in which it is found.
        Scene way = scene.then(d -> d.makeLink(0, 8, 0, 1, 9)).then(d -> d.makeLink(4, 8, 1, 9, 0));
        Bounds.tells(way, d -> d.follow(0, 8), 0);
        Bounds.tells(way, d -> d.follow(4, 8), 2);
        // Moved, it leads elsewhere.
        Bounds.tells(scene.then(d -> d.rename(3, 9, 4, 9)), d -> d.follow(4, 9), 3);
    }
}
