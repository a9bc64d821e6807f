/** Promises 59 to 65 at their edges: all of it, asked. */
public final class EdgesOfWholeTest {
    private static final Scene[] SOME = {
        Scenes.EMPTY, Scenes.USUAL, Scenes.nodes(32), Scenes.entries(12), Scenes.room(0), Scenes.room(1),
        Scenes.USUAL.then(JournalDisk::cut).then(JournalDisk::mount), Scenes.quota(0)
    };

    public static void main(String[] args) {
        asked("promise 59", JournalDisk::used);
        Check.test("promise 59: 0, 1, 119, 120", EdgesOfWholeTest::usedEdges);
        Check.test("promise 59: each BLOCK counted once", EdgesOfWholeTest::usedOnce);
        asked("promise 60", d -> d.usedBy(3));
        Check.test("promise 60: user is 0 to 3", EdgesOfWholeTest::usedByRange);
        Check.test("promise 60: SHARED or not, ORPHANs as well", EdgesOfWholeTest::usedByCounts);
        Check.test("promise 60: it is DOWN, ahead of a wrong user", () -> Bounds.down(d -> d.usedBy(4)));
        asked("promise 61", d -> d.quotaOf(3));
        Check.test("promise 61: user is 0 to 3", EdgesOfWholeTest::quotaRange);
        Check.test("promise 61: it is DOWN, ahead of a wrong user", () -> Bounds.down(d -> d.quotaOf(4)));
        asked("promise 62", JournalDisk::greatestFile);
        Check.test("promise 62: of several the smallest number", EdgesOfWholeTest::greatestEdges);
        Check.test("promise 62: by BLOCKS, not by SIZE", EdgesOfWholeTest::greatestBlocks);
        asked("promise 63", JournalDisk::meanSize);
        Check.test("promise 63: not cut; 0 without any", EdgesOfWholeTest::mean);
        asked("promise 64", JournalDisk::flaws);
        Check.test("promise 64: always 0", EdgesOfWholeTest::flawless);
        asked("promise 65", JournalDisk::digest);
        Check.test("promise 65: all numbers, told by hand", EdgesOfWholeTest::digestByHand);
        Check.test("promise 65: what follow() tells if it fails", EdgesOfWholeTest::digestFollow);
        Check.test("promise 65: each number counts", EdgesOfWholeTest::digestDiffers);
        Check.end();
    }

    private static void asked(String promise, Scene.Ask call) {
        Check.test(promise + ": it is DOWN", () -> Bounds.down(call));
        Check.test(promise + ": nothing is changed by it", () -> {
            for (Scene scene : SOME) {
                Bounds.leaves(scene, call);
            }
        });
    }

    private static void usedEdges() {
        Bounds.tells(Scenes.EMPTY, JournalDisk::used, 0);
        Bounds.tells(Scenes.rootEntries(1), JournalDisk::used, 1);
        Bounds.tells(Scenes.rootEntries(4), JournalDisk::used, 1);
        Bounds.tells(Scenes.rootEntries(5), JournalDisk::used, 2);
        for (int spare = 0; spare <= 5; spare++) {
            Bounds.tells(Scenes.room(spare), JournalDisk::used, 120 - spare);
        }
        Bounds.tells(Scenes.room(0).then(d -> d.makeFile(0, 9)), JournalDisk::used, 120);
    }

    private static void usedOnce() {
        Scene file = d -> Given.file(d, 0, 1, 33);
        Bounds.tells(file, JournalDisk::used, 4);
        Bounds.tells(file.then(d -> d.cloneFile(0, 2, 1)), JournalDisk::used, 4);
        Bounds.tells(file.then(d -> d.cloneFile(0, 2, 1)).then(d -> d.unlink(0, 1)), JournalDisk::used, 4);
        Bounds.tells(file.then(d -> d.addName(0, 2, 1)), JournalDisk::used, 4);
        Bounds.tells(file.then(d -> d.punch(1, 0)), JournalDisk::used, 3);
        Bounds.tells(file.then(d -> d.truncate(1, 320)), JournalDisk::used, 4);
        Bounds.tells(file.then(d -> d.open(1)).then(d -> d.unlink(0, 1)), JournalDisk::used, 3);
        Bounds.tells(file.then(d -> d.unlink(0, 1)), JournalDisk::used, 0);
        Bounds.tells(file.then(d -> d.makeLink(0, 2, 0, 0, 0)), JournalDisk::used, 4);
    }

    private static void usedByRange() {
        int[] due = {5, 8, 0, 0};
        Bounds.range(Scenes.USUAL, 0, 3, JournalDisk::usedBy, x -> due[x]);
    }

    private static void usedByCounts() {
        Scene two = Scenes.EMPTY.then(d -> Given.file(d, 0, 1, 33)).then(d -> d.cloneFile(0, 2, 1));
        Bounds.tells(two, d -> d.usedBy(0), 7);
        Bounds.tells(two.then(d -> d.setOwner(2, 1)), d -> d.usedBy(0), 4);
        Bounds.tells(two.then(d -> d.setOwner(2, 1)), d -> d.usedBy(1), 3);
        Scene orphan = two.then(d -> d.setOwner(2, 1)).then(d -> d.open(2)).then(d -> d.unlink(0, 2));
        Bounds.tells(orphan, d -> d.usedBy(1), 3);
        Bounds.tells(orphan.then(d -> d.close(0)), d -> d.usedBy(1), 0);
        Bounds.tells(Scenes.room(0), d -> d.usedBy(0), 120);
        // Two users may USE more together than are USED.
        Scene full = Scenes.room(1).then(d -> d.setOwner(8, 1)).then(d -> d.cloneFile(8, 1, 2));
        Bounds.tells(full, JournalDisk::used, 120);
        Bounds.tells(full, d -> d.usedBy(0), 119);
        Bounds.tells(full, d -> d.usedBy(1), 21);
    }

    private static void quotaRange() {
        Bounds.range(Scenes.EMPTY, 0, 3, JournalDisk::quotaOf, x -> 120);
        Bounds.range(Scenes.USUAL, 0, 3, JournalDisk::quotaOf, x -> x == 3 ? 50 : 120);
        for (int quota : new int[] {0, 1, 119, 120}) {
            Bounds.tells(Scenes.EMPTY.then(d -> d.setQuota(2, quota)), d -> d.quotaOf(2), quota);
            Bounds.tells(Scenes.EMPTY.then(d -> d.setQuota(2, quota)), d -> d.quotaOf(1), 120);
        }
    }

    private static void greatestEdges() {
        Bounds.tells(Scenes.EMPTY, JournalDisk::greatestFile, -1);
        Bounds.tells(Scenes.entries(12).then(d -> d.unlink(0, 1)), JournalDisk::greatestFile, -1);
        // A file without BLOCKS is one all the same.
        Bounds.tells(Scenes.rootEntries(1), JournalDisk::greatestFile, 1);
        Scene two = Scenes.EMPTY.then(d -> Given.file(d, 0, 1, 32)).then(d -> Given.file(d, 0, 2, 32));
        Bounds.tells(two, JournalDisk::greatestFile, 1);
        Bounds.tells(two.then(d -> d.punch(1, 0)), JournalDisk::greatestFile, 2);
        Bounds.tells(two.then(d -> d.punch(2, 0)), JournalDisk::greatestFile, 1);
        Bounds.tells(two.then(d -> Given.file(d, 0, 3, 33)), JournalDisk::greatestFile, 3);
        Bounds.tells(two.then(d -> d.cloneFile(0, 3, 2)), JournalDisk::greatestFile, 1);
        Bounds.tells(two.then(d -> d.unlink(0, 1)), JournalDisk::greatestFile, 2);
        Bounds.tells(Scenes.room(0), JournalDisk::greatestFile, 1);
        Bounds.tells(Scenes.room(1), JournalDisk::greatestFile, 2);
        // A folder that takes more is no file; an ORPHAN is one.
        Bounds.tells(Scenes.entries(12), JournalDisk::greatestFile, 1);
        Bounds.tells(two.then(d -> Given.fill(d, 2, 48)).then(d -> d.open(2)).then(d -> d.unlink(0, 2)),
                JournalDisk::greatestFile, 2);
    }

    private static void greatestBlocks() {
        Scene scene = Scenes.EMPTY.then(d -> {
            d.makeFile(0, 1);
            d.truncate(1, 320);
            Given.file(d, 0, 2, 1);
        });
        Bounds.tells(scene, JournalDisk::greatestFile, 2);
        Bounds.tells(scene.then(d -> d.truncate(2, 0)), JournalDisk::greatestFile, 1);
    }

    private static void mean() {
        Bounds.tells(Scenes.EMPTY, JournalDisk::meanSize, 0.0);
        Bounds.tells(Scenes.entries(12).then(d -> d.unlink(0, 1)), JournalDisk::meanSize, 0.0);
        Bounds.tells(Scenes.rootEntries(1), JournalDisk::meanSize, 0.0);
        int[] sizes = {320, 1, 0, 319, 7};
        double[] due = {320.0, 160.5, 107.0, 160.0, 129.4};
        JournalDisk d = new JournalDisk();
        for (int k = 0; k < sizes.length; k++) {
            d.makeFile(0, 1 + k);
            d.truncate(1 + k, sizes[k]);
            Check.isReal(d.meanSize(), due[k]);
        }
        // ORPHANs count, folders and links do not; two names are one file.
        Bounds.tells(Scenes.USUAL, JournalDisk::meanSize, (40 + 50 + 40 + 16) / 4.0);
        Bounds.tells(Scenes.USUAL.then(x -> x.close(0)), JournalDisk::meanSize, 130 / 3.0);
        Bounds.tells(Scenes.USUAL.then(x -> x.addName(0, 5, 3)), JournalDisk::meanSize, 36.5);
    }

    private static void flawless() {
        for (Scene scene : SOME) {
            Bounds.tells(scene, JournalDisk::flaws, 0);
            for (int when = 0; when <= 2; when++) {
                for (int bytes = 31; bytes <= 32; bytes++) {
                    int kind = when;
                    int done = bytes;
                    Bounds.tells(scene.then(d -> {
                        d.fail(kind, 3, done);
                        d.setQuota(3, 1);
                        if (!d.isDown()) {
                            d.flush();
                        }
                        d.mount();
                    }), JournalDisk::flaws, 0);
                }
            }
        }
    }

    // ---- promise 65

    private static long sum;

    private static void add(int... numbers) {
        for (int x : numbers) {
            sum = sum * 31 + x;
        }
    }

    private static void addRising(int many) {
        for (int k = 1; k <= many; k++) {
            add(k);
        }
    }

    private static void digestByHand() {
        sum = 58004L;
        add(7, 13, 2, 4, 1, 10);
        add(5, 120, 8, 120, 0, 120, 0, 50);
        add(3);
        add(0, 2, 0, 0, 2, 1, 0, 0, 0, 9, 9);
        add(10, 1, 1, 20, 2, 2);
        add(1, 1, 1, 0, 40, 3, 3, -1, -1, 3, 0);
        addRising(40);
        add(2, 2, 1, 1, 3, 1, 0, 0, 1, 8, 5);
        add(30, 3, 3, 40, 4, 1, 50, 5, 5);
        add(3, 1, 1, 1, 50, 4, 0, -1, -1, 4, 4);
        addRising(50);
        add(4, 3, 1, 1, 1, 0, 0, -1, -1, 0, 0);
        add(5, 1, 1, 1, 40, 3, 3, -1, -1, 3, 0);
        addRising(40);
        add(6, 1, 0, 0, 16, 1, 0, -1, -1, 1, 1);
        addRising(16);
        add(0, 6, 9, 0);
        add(1, 1, 7, 2);
        add(2, 1, 0, 2);
        add(4, 3, 45, 0);
        Bounds.tells(Scenes.USUAL, JournalDisk::digest, sum);
    }

    private static void digestFollow() {
        // Three links that fail with -1, -6 and -3, by rising names.
        Scene scene = d -> {
            d.makeLink(0, 9, 0, 7, 0);
            d.makeLink(0, 7, 0, 1, 0);
            d.makeLink(0, 8, 0, 8, 0);
            d.makeFile(0, 5);
            d.makeLink(0, 6, 0, 5, 5);
        };
        sum = 58004L;
        add(6, 5, 5, 0, 0, 2);
        add(2, 120, 0, 120, 0, 120, 0, 120);
        add(4);
        add(0, 2, 0, 0, 5, 2, 0, 0, 0, 2, 2);
        add(5, 4, 4, 6, 5, -3, 7, 2, -1, 8, 3, -6, 9, 1, -1);
        add(1, 3, 1, 0, 1, 0, 0, -1, -1, 0, 1);
        add(2, 3, 1, 0, 1, 0, 0, -1, -1, 0, 1);
        add(3, 3, 1, 0, 1, 0, 0, -1, -1, 0, 1);
        add(4, 1, 1, 0, 0, 0, 0, -1, -1, 0, 1);
        add(5, 3, 1, 0, 2, 0, 0, -1, -1, 0, 1);
        Bounds.tells(scene, JournalDisk::digest, sum);
    }

    private static void digestDiffers() {
        Scene.Ask[] calls = {
            d -> d.makeFile(0, 1), d -> d.setQuota(2, 119), d -> d.setOwner(4, 2), d -> d.seek(2, 1),
            d -> d.unlock(2, 319, 1), d -> d.close(4), d -> d.open(6), d -> d.truncate(3, 49), d -> d.write(4, 1, 0),
            d -> d.punch(3, 3), d -> d.rename(0, 10, 0, 11), d -> d.exchange(0, 10, 2, 30), d -> d.setQuota(3, 50)
        };
        long before = Scenes.USUAL.made().digest();
        for (Scene.Ask call : calls) {
            JournalDisk d = Scenes.USUAL.made();
            call.of(d);
            Check.is(d.digest() == before, false);
        }
    }
}
