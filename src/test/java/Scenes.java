/** Scenes that tests by the edges begin with. */
final class Scenes {
    /** Names of the ROOT without an ENTRY are those but 10 and 20. */
    static final Scene USUAL = Scenes::usual;
    static final Scene DOWN = USUAL.then(JournalDisk::cut);
    /** One in which a mount() failed, so that it is DOWN as before. */
    static final Scene DOWN_STILL = USUAL.then(d -> {
        d.fail(3, 1, 1);
        d.cut();
        d.mount();
        d.fail(0, 2, 2);
    });
    static final Scene EMPTY = d -> { };

    private Scenes() {
    }

    /**
     * In the ROOT file 1 (named 10, 40 bytes) and folder 2 (20, of user 1), in which are file 3 (30, 50 bytes in
     * 4 BLOCKS), link 4 (40, to file 1) and file 5 (50, a clone of file 1); file 6 (16 bytes) is an ORPHAN. Handle
     * 0 is on file 6 at 9, the handles 1 (at 7) and 2 on file 1, with locks, handle 4 on file 3 at 45. It was
     * mounted once, 2 changes wait, and the next COMMIT is done, but the power falls behind it.
     */
    private static void usual(JournalDisk d) {
        Given.file(d, 0, 10, 40);
        d.makeFolder(0, 20);
        d.setOwner(2, 1);
        Given.file(d, 2, 30, 64);
        d.makeLink(2, 40, 1, 10, 0);
        d.cloneFile(2, 50, 1);
        d.cut();
        d.mount();
        Given.file(d, 0, 60, 16);
        d.open(6);
        d.seek(0, 9);
        d.unlink(0, 60);
        d.sync();
        d.open(1);
        d.seek(1, 7);
        d.lock(1, 0, 10, false);
        d.lock(1, 20, 5, true);
        d.open(1);
        d.lock(2, 5, 10, false);
        d.lock(2, 319, 1, true);
        d.open(3);
        d.open(3);
        d.seek(4, 45);
        d.close(3);
        d.setQuota(3, 50);
        d.truncate(3, 50);
        d.fail(1, 1, 32);
    }

    /** File 1 (named 1) and folder 2 (named 2) in the ROOT; the folder has so many links, named from 10 on. */
    static Scene entries(int many) {
        return d -> {
            d.makeFile(0, 1);
            d.makeFolder(0, 2);
            for (int k = 0; k < many; k++) {
                d.makeLink(2, 10 + k, 0, 0, 0);
            }
        };
    }

    /** File 1 (named 1) in the ROOT, that has so many ENTRIES in all: links, named from 10 on. */
    static Scene rootEntries(int many) {
        return d -> {
            d.makeFile(0, 1);
            for (int k = 1; k < many; k++) {
                d.makeLink(0, 9 + k, 0, 0, 0);
            }
        };
    }

    /** So many nodes: in the ROOT file 1, the folders 2 and 3, named so; then links in 2, 3 and 0, from 10 on. */
    static Scene nodes(int many) {
        return d -> {
            d.makeFile(0, 1);
            d.makeFolder(0, 2);
            d.makeFolder(0, 3);
            int[] folders = {2, 3, 0};
            for (int k = 0; k < many - 4; k++) {
                d.makeLink(folders[k % 3], 10 + k / 3, 0, 0, 0);
            }
        };
    }

    /**
     * The files 1 to 6, named so (20 BLOCKS each, file 6 has 18), the empty file 7 and the folder 8 without
     * ENTRIES, all in the ROOT, which takes 2 BLOCKS; of 120 BLOCKS so many are not USED. Of file 1 the places
     * from 0 on are HOLEs for that.
     */
    static Scene room(int spare) {
        return d -> {
            Given.full(d);
            d.makeFile(0, 7);
            d.makeFolder(0, 8);
            for (int k = 0; k < spare; k++) {
                d.punch(1, k);
            }
        };
    }

    /** A file 1 (named 1) in the ROOT of 4 ENTRIES, of user 0, who USES 1 BLOCK, and has this QUOTA. */
    static Scene quota(int quota) {
        return rootEntries(4).then(d -> d.setQuota(0, quota));
    }

    /** So many CHANGES wait, all of setQuota(), behind a COMMIT. */
    static Scene waiting(Scene scene, int many) {
        return scene.then(d -> {
            d.sync();
            for (int k = 0; k < many; k++) {
                d.setQuota(3, 100 + k);
            }
        });
    }
}
