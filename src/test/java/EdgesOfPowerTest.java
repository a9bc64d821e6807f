/** Promises 29 to 38 at their edges: commits and power. */
public final class EdgesOfPowerTest {
    // A change of each sort, with its answer behind changed().
    private static final String[] NAMES = {
        "makeFile", "makeFolder", "makeLink", "cloneFile", "addName", "unlink", "removeFolder", "rename", "exchange",
        "write", "truncate", "punch", "share", "setOwner", "setQuota", "close"
    };
    private static final Scene.Ask[] CHANGES = {
        d -> d.makeFile(0, 50), d -> d.makeFolder(0, 50), d -> d.makeLink(0, 50, 0, 0, 0),
        d -> d.cloneFile(0, 50, 1), d -> d.addName(0, 50, 1), d -> d.unlink(0, 1), d -> d.removeFolder(0, 2),
        d -> d.rename(0, 1, 0, 50), d -> d.exchange(0, 1, 0, 2), d -> d.write(0, 5, 5), d -> d.truncate(1, 7),
        d -> d.punch(1, 0), d -> d.share(1, 0, 3, 0), d -> d.setOwner(1, 1), d -> d.setQuota(1, 1), d -> d.close(1)
    };
    private static final int[] ANSWERS = {4, 4, 4, 4, 2, 0, 2, 1, 2, 40, 40, 1, 1, 0, 120, 3};

    public static void main(String[] args) {
        Check.test("promise 29: it is DOWN", () -> Bounds.down(JournalDisk::sync));
        Check.test("promise 29: with 0, 1, 7 that wait", EdgesOfPowerTest::syncWaiting);
        Check.test("promise 29: whether the power is still there", EdgesOfPowerTest::syncFalls);
        Check.test("promise 30: it is DOWN", () -> Bounds.down(JournalDisk::flush));
        Check.test("promise 30: with 0, 1, 7 that wait", EdgesOfPowerTest::flushWaiting);
        Check.test("promise 30: whether the power is still there", EdgesOfPowerTest::flushFalls);
        Check.test("promise 31: many is 0 to 50", EdgesOfPowerTest::writeBackMany);
        Check.test("promise 31: any seed, and nothing is to be seen", EdgesOfPowerTest::writeBackSeed);
        Check.test("promise 31: it is DOWN", () -> Bounds.down(d -> writeBack(d, 0, 51)));
        Check.test("promise 32: it is DOWN", () -> Bounds.down(EdgesOfPowerTest::cut));
        Check.test("promise 32: what waits is lost, handles and locks go", EdgesOfPowerTest::cutLoses);
        Check.test("promise 33: when is 0 to 3", EdgesOfPowerTest::failWhen);
        Check.test("promise 33: writes is 1 to 40", EdgesOfPowerTest::failWrites);
        Check.test("promise 33: bytes is 0 to 40", EdgesOfPowerTest::failBytes);
        Check.test("promise 33: also while it is DOWN", EdgesOfPowerTest::failDown);
        Check.test("promise 33: 0, in the next COMMIT, which is not done", EdgesOfPowerTest::failInJournal);
        Check.test("promise 33: 1, with 31, 32, 33 bytes", EdgesOfPowerTest::failAtMark);
        Check.test("promise 33: 2, in the next flush()", EdgesOfPowerTest::failInFlush);
        Check.test("promise 33: 3, in the next mount()", EdgesOfPowerTest::failInMount);
        Check.test("promise 33: the latest one alone counts", EdgesOfPowerTest::failLatest);
        Check.test("promise 33: only once", EdgesOfPowerTest::failOnce);
        Check.test("promise 33: still to come, whatever else happens", EdgesOfPowerTest::failKept);
        Check.test("promise 34: it is not DOWN", EdgesOfPowerTest::mountUp);
        Check.test("promise 34: 0, 1, 6 ORPHANs are removed, and this lasts", EdgesOfPowerTest::mountOrphans);
        Check.test("promise 34: all is as it was behind the latest COMMIT", EdgesOfPowerTest::mountBack);
        Check.test("promise 34: each byte of 120 BLOCKS is as it was", EdgesOfPowerTest::mountFull);
        Check.test("promise 35: behind each call with a FALL", EdgesOfPowerTest::downAfter);
        Check.test("promise 36: a mount() that fails is none", EdgesOfPowerTest::mountsCounted);
        Check.test("promise 37: it is DOWN", () -> Bounds.down(JournalDisk::waiting));
        Check.test("promise 37: 0 to 7, and 0 again", EdgesOfPowerTest::waitingCounted);
        Check.test("promise 38: it is DOWN", () -> Bounds.down(JournalDisk::changes));
        Check.test("promise 38: those that are lost not counted", EdgesOfPowerTest::changesCounted);
        for (int k = 0; k < CHANGES.length; k++) {
            int which = k;
            Check.test("point 4: " + NAMES[k] + " with 6, 7 that wait", () -> eighth(which));
        }
        Check.end();
    }

    private static Object cut(JournalDisk d) {
        d.cut();
        return "fell";
    }

    private static Object writeBack(JournalDisk d, int seed, int many) {
        d.writeBack(seed, many);
        return "fine";
    }

    private static Object fail(JournalDisk d, int when, int writes, int bytes) {
        d.fail(when, writes, bytes);
        return "fine";
    }

    /**
     * File 1 (40 bytes), folder 2 and file 3 in the ROOT, named so; handle 0 on file 1, handle 1 on file 3, which
     * is an ORPHAN then. All is committed, behind 6 CHANGES.
     */
    private static void changed(JournalDisk d) {
        Given.file(d, 0, 1, 40);
        d.makeFolder(0, 2);
        Given.file(d, 0, 3, 20);
        d.open(1);
        d.open(3);
        d.unlink(0, 3);
        d.sync();
    }

    /** As changed(), and so many setQuota() for user 3 that wait: 100, 101 and so on. */
    private static Scene waits(int many) {
        return Scenes.waiting(EdgesOfPowerTest::changed, many);
    }

    private static Scene down(Scene scene) {
        return scene.then(d -> Scene.answer(d, EdgesOfPowerTest::cut));
    }

    private static Scene back(Scene scene) {
        return down(scene).then(JournalDisk::mount);
    }

    // ---- point 4

    private static void eighth(int which) {
        Scene.Ask change = CHANGES[which];
        int answer = ANSWERS[which];
        Bounds.tells(waits(6), change, answer);
        Bounds.tells(waits(6).then(d -> Scene.answer(d, change)), JournalDisk::waiting, 7);
        Bounds.tells(waits(7), change, answer);
        Bounds.tells(waits(7).then(d -> Scene.answer(d, change)), JournalDisk::waiting, 0);
        for (int when = 0; when <= 3; when++) {
            int kind = when;
            for (int bytes = 31; bytes <= 33; bytes++) {
                int done = bytes;
                Scene early = waits(6).then(d -> fail(d, kind, 1, done));
                Bounds.tells(early, change, answer);
                Bounds.tells(early.then(d -> Scene.answer(d, change)), JournalDisk::isDown, false);
                Scene falling = waits(7).then(d -> fail(d, kind, 1, done));
                boolean falls = when <= 1;
                Bounds.tells(falling, change, falls ? -9 : answer);
                Scene behind = falling.then(d -> Scene.answer(d, change));
                Bounds.tells(behind, JournalDisk::isDown, falls);
                if (falls) {
                    // As if it had been cut ahead of all that waited, or behind it.
                    Scene cut = when == 1 && bytes >= 32 ? waits(7).then(d -> Scene.answer(d, change)) : waits(0);
                    Bounds.meet(behind, down(cut));
                }
            }
        }
    }

    // ---- promises 29 and 30

    private static void syncWaiting() {
        for (int many : new int[] {0, 1, 6, 7}) {
            Bounds.tells(waits(many), JournalDisk::sync, true);
            Bounds.tells(waits(many).then(JournalDisk::sync), JournalDisk::waiting, 0);
            Bounds.tells(back(waits(many).then(JournalDisk::sync)), d -> d.quotaOf(3), many == 0 ? 120 : 99 + many);
            Bounds.tells(back(waits(many)), d -> d.quotaOf(3), 120);
        }
        Bounds.leaves(waits(0), JournalDisk::sync);
        // Without any that wait there is no COMMIT in which the power could fall.
        for (int when = 0; when <= 3; when++) {
            int kind = when;
            Scene scene = waits(0).then(d -> fail(d, kind, 1, 1));
            Bounds.refuses(scene, JournalDisk::sync, true);
        }
        // Handles and locks stay.
        Scene locked = waits(1).then(d -> d.lock(0, 5, 5, true)).then(JournalDisk::sync);
        Bounds.tells(locked, JournalDisk::handles, 2);
        Bounds.tells(locked, d -> d.lockAt(1, 9), 2);
    }

    private static void syncFalls() {
        for (int many : new int[] {1, 7}) {
            for (int when = 0; when <= 3; when++) {
                int kind = when;
                Scene scene = waits(many).then(d -> fail(d, kind, 1, 31));
                Bounds.tells(scene, JournalDisk::sync, when >= 2);
                Bounds.tells(scene.then(JournalDisk::sync), JournalDisk::isDown, when < 2);
            }
            for (int bytes = 31; bytes <= 33; bytes++) {
                int done = bytes;
                Scene scene = waits(many).then(d -> fail(d, 1, 1, done)).then(JournalDisk::sync);
                Bounds.meet(scene, down(bytes < 32 ? waits(0) : waits(many).then(JournalDisk::sync)));
            }
        }
    }

    private static void flushWaiting() {
        for (int many : new int[] {0, 1, 6, 7}) {
            Bounds.tells(waits(many), JournalDisk::flush, true);
            Bounds.meet(waits(many).then(JournalDisk::flush), waits(many).then(JournalDisk::sync));
        }
        Bounds.leaves(waits(0), JournalDisk::flush);
        for (int when : new int[] {0, 1, 3}) {
            Bounds.refuses(waits(0).then(d -> fail(d, when, 1, 1)), JournalDisk::flush, true);
        }
    }

    private static void flushFalls() {
        for (int many : new int[] {0, 1, 7}) {
            for (int when = 0; when <= 3; when++) {
                int kind = when;
                boolean falls = when == 2 || (when < 2 && many > 0);
                Scene scene = waits(many).then(d -> fail(d, kind, 1, 31));
                Bounds.tells(scene, JournalDisk::flush, !falls);
                Bounds.tells(scene.then(JournalDisk::flush), JournalDisk::isDown, falls);
                if (falls) {
                    Bounds.meet(scene.then(JournalDisk::flush),
                            down(when < 2 ? waits(0) : waits(many).then(JournalDisk::sync)));
                }
            }
            if (many > 0) {
                Scene mark = waits(many).then(d -> fail(d, 1, 1, 32)).then(JournalDisk::flush);
                Bounds.meet(mark, down(waits(many).then(JournalDisk::sync)));
            }
        }
    }

    // ---- promises 31 and 32

    private static void writeBackMany() {
        Bounds.range(waits(3), 0, 50, (d, x) -> writeBack(d, 7, x), x -> "fine");
        Bounds.wrong(Scenes.USUAL, 0, 50, (d, x) -> writeBack(d, 7, x));
    }

    private static void writeBackSeed() {
        for (int seed : new int[] {Integer.MIN_VALUE, -1, 0, 1, 50, 51, Integer.MAX_VALUE}) {
            for (int many : new int[] {0, 1, 49, 50}) {
                Bounds.refuses(Scenes.USUAL, d -> writeBack(d, seed, many), "fine");
            }
        }
        for (int when = 0; when <= 3; when++) {
            int kind = when;
            Bounds.refuses(waits(3).then(d -> fail(d, kind, 1, 1)), d -> writeBack(d, 3, 50), "fine");
        }
    }

    private static void cutLoses() {
        for (int many : new int[] {0, 1, 7}) {
            Scene scene = waits(many).then(d -> d.lock(0, 0, 320, true)).then(JournalDisk::cut);
            Bounds.tells(scene, JournalDisk::isDown, true);
            Bounds.meet(scene, down(waits(0)));
            Scene up = scene.then(JournalDisk::mount);
            Bounds.tells(up, JournalDisk::waiting, 0);
            Bounds.tells(up, JournalDisk::handles, 0);
            Bounds.tells(up, d -> d.nodeOf(0), Bounds.INDEX);
            Bounds.tells(up, d -> d.lockAt(1, 0), 0);
            Bounds.tells(up, d -> d.quotaOf(3), 120);
            Bounds.tells(up, JournalDisk::changes, 6);
        }
    }

    // ---- promise 33

    private static void failWhen() {
        Bounds.range(waits(1), 0, 3, (d, x) -> fail(d, x, 1, 1), x -> "fine");
        Bounds.wrong(Scenes.USUAL, 0, 3, (d, x) -> fail(d, x, 1, 1));
        Bounds.wrong(Scenes.DOWN_STILL, 0, 3, (d, x) -> fail(d, x, 1, 1));
    }

    private static void failWrites() {
        for (int when = 0; when <= 3; when++) {
            int kind = when;
            Bounds.range(waits(1), 1, 40, (d, x) -> fail(d, kind, x, 1), x -> "fine");
            Bounds.wrong(Scenes.USUAL, 1, 40, (d, x) -> fail(d, kind, x, 1));
            // At whichever write: nothing else is to be seen.
            for (int writes : new int[] {2, 20, 39, 40}) {
                Bounds.meet(waits(3).then(d -> fail(d, kind, writes, 5)), waits(3).then(d -> fail(d, kind, 1, 5)));
                Bounds.meet(waits(3).then(d -> fail(d, kind, writes, 35)), waits(3).then(d -> fail(d, kind, 1, 35)));
            }
        }
    }

    private static void failBytes() {
        for (int when = 0; when <= 3; when++) {
            int kind = when;
            Bounds.range(waits(1), 0, 40, (d, x) -> fail(d, kind, 1, x), x -> "fine");
            Bounds.wrong(Scenes.USUAL, 0, 40, (d, x) -> fail(d, kind, 1, x));
            for (int bytes = 0; bytes <= 40; bytes++) {
                int done = bytes;
                int like = when == 1 && bytes >= 32 ? 32 : 0;
                Bounds.meet(waits(2).then(d -> fail(d, kind, 1, done)), waits(2).then(d -> fail(d, kind, 1, like)));
            }
        }
    }

    private static void failDown() {
        Scene down = down(waits(3));
        for (int when = 0; when <= 3; when++) {
            int kind = when;
            Bounds.tells(down, d -> fail(d, kind, 1, 40), "fine");
        }
        Bounds.tells(down.then(d -> fail(d, 3, 1, 1)), JournalDisk::mount, -9);
        Scene up = down.then(d -> fail(d, 0, 1, 1)).then(JournalDisk::mount).then(d -> d.setQuota(3, 1));
        Bounds.tells(up, JournalDisk::sync, false);
        Scene flush = down.then(d -> fail(d, 2, 1, 1)).then(JournalDisk::mount);
        Bounds.tells(flush, JournalDisk::flush, false);
        Bounds.refuses(down, d -> fail(d, 4, 1, 1), Bounds.ARGUMENT);
        Bounds.refuses(down, d -> fail(d, 0, 0, 1), Bounds.ARGUMENT);
        Bounds.refuses(down, d -> fail(d, 0, 1, 41), Bounds.ARGUMENT);
    }

    private static void failInJournal() {
        Scene scene = waits(5).then(d -> fail(d, 0, 1, 40));
        Bounds.meet(scene.then(JournalDisk::sync), down(waits(0)));
        // It comes in the next COMMIT, not ahead of it: nothing else lets the power fall.
        Bounds.tells(scene.then(d -> d.makeFile(0, 9)).then(d -> d.read(0, 5)), JournalDisk::isDown, false);
        Bounds.tells(scene.then(d -> d.makeFile(0, 9)).then(d -> d.makeFile(0, 10)), JournalDisk::waiting, 7);
        Bounds.tells(scene.then(d -> d.makeFile(0, 9)).then(d -> d.makeFile(0, 10)), d -> d.makeFile(0, 11), -9);
    }

    private static void failAtMark() {
        for (int bytes : new int[] {0, 1, 30, 31, 32, 33, 39, 40}) {
            Scene scene = waits(5).then(d -> fail(d, 1, 1, bytes));
            Bounds.tells(scene, JournalDisk::sync, false);
            Bounds.meet(scene.then(JournalDisk::sync), down(bytes < 32 ? waits(0) : waits(5).then(JournalDisk::sync)));
            Bounds.tells(back(scene.then(JournalDisk::sync)), JournalDisk::changes, bytes < 32 ? 6 : 11);
        }
    }

    private static void failInFlush() {
        for (int many : new int[] {0, 1, 7}) {
            Scene scene = waits(many).then(d -> fail(d, 2, 1, 0));
            Bounds.tells(scene, JournalDisk::sync, true);
            Bounds.tells(scene.then(JournalDisk::sync), JournalDisk::flush, false);
            Bounds.tells(scene, JournalDisk::flush, false);
            // The COMMIT ahead of it is done.
            Bounds.meet(scene.then(JournalDisk::flush), down(waits(many).then(JournalDisk::sync)));
        }
        Bounds.tells(waits(7).then(d -> fail(d, 2, 1, 0)), d -> d.setQuota(3, 9), 106);
    }

    private static void failInMount() {
        Scene scene = waits(3).then(d -> fail(d, 3, 1, 1));
        Bounds.tells(scene, JournalDisk::sync, true);
        Bounds.tells(scene, JournalDisk::flush, true);
        Bounds.tells(scene.then(JournalDisk::cut), JournalDisk::mount, -9);
        Scene again = scene.then(JournalDisk::cut).then(JournalDisk::mount);
        Bounds.tells(again, JournalDisk::isDown, true);
        Bounds.tells(again, JournalDisk::mounts, 0);
        Bounds.tells(again, JournalDisk::nodes, Bounds.STATE);
        Bounds.tells(again, JournalDisk::mount, 1);
        // DOWN as before: nothing is other than without the mount() that failed.
        Bounds.meet(again, down(waits(3)));
        // Again and again, if it is told each time.
        Scene twice = again.then(d -> fail(d, 3, 40, 40));
        Bounds.tells(twice, JournalDisk::mount, -9);
        Bounds.meet(twice.then(JournalDisk::mount), down(waits(3)));
    }

    private static void failLatest() {
        for (int first = 0; first <= 3; first++) {
            for (int second = 0; second <= 3; second++) {
                int one = first;
                int other = second;
                Scene both = waits(3).then(d -> fail(d, one, 1, 31)).then(d -> fail(d, other, 1, 33));
                Bounds.meet(both, waits(3).then(d -> fail(d, other, 1, 33)));
            }
        }
        // A refused one does not count.
        Bounds.refuses(waits(3).then(d -> fail(d, 0, 1, 1)), d -> fail(d, 3, 41, 1), Bounds.ARGUMENT);
        Scene mark = waits(3).then(d -> fail(d, 1, 1, 32)).then(d -> fail(d, 1, 1, 31));
        Bounds.meet(mark.then(JournalDisk::sync), down(waits(0)));
    }

    private static void failOnce() {
        Scene journal = back(waits(1).then(d -> fail(d, 0, 1, 1)).then(JournalDisk::sync)).then(d -> d.setQuota(3, 9));
        Bounds.tells(journal, JournalDisk::sync, true);
        Scene mark = back(waits(1).then(d -> fail(d, 1, 1, 1)).then(JournalDisk::sync)).then(d -> d.setQuota(3, 9));
        Bounds.tells(mark, JournalDisk::sync, true);
        Scene flush = back(waits(1).then(d -> fail(d, 2, 1, 1)).then(JournalDisk::flush)).then(d -> d.setQuota(3, 9));
        Bounds.tells(flush, JournalDisk::flush, true);
        Scene mount = down(waits(1).then(d -> fail(d, 3, 1, 1))).then(JournalDisk::mount).then(JournalDisk::mount);
        Bounds.tells(mount, JournalDisk::mount, Bounds.STATE);
        Bounds.tells(mount.then(JournalDisk::cut), JournalDisk::mount, 0);
    }

    private static void failKept() {
        // Behind a cut() and a mount(), also one that removes ORPHANs, it is still to come.
        for (int when = 0; when <= 2; when++) {
            int kind = when;
            Scene scene = back(waits(3).then(d -> fail(d, kind, 1, 31)));
            Bounds.tells(scene, JournalDisk::isDown, false);
            Bounds.tells(scene, d -> d.typeOf(3), 0);
            Bounds.tells(scene, JournalDisk::sync, true);
            Scene again = back(scene).then(d -> d.setQuota(3, 5));
            Bounds.tells(again, JournalDisk::sync, when == 2);
            Bounds.tells(again, JournalDisk::flush, false);
        }
        Scene mount = waits(3).then(d -> {
            fail(d, 3, 1, 1);
            d.flush();
            d.makeFile(0, 9);
            d.sync();
            d.close(0);
        });
        Bounds.tells(down(mount), JournalDisk::mount, -9);
        // A flush() that only commits does not take the one for the blocks away, nor the other way round.
        Scene mark = waits(0).then(d -> fail(d, 1, 1, 1)).then(JournalDisk::flush).then(d -> d.setQuota(3, 1));
        Bounds.tells(mark, JournalDisk::flush, false);
    }

    // ---- promises 34 to 38

    private static void mountUp() {
        Bounds.refuses(Scenes.EMPTY, JournalDisk::mount, Bounds.STATE);
        Bounds.refuses(Scenes.USUAL, JournalDisk::mount, Bounds.STATE);
        Bounds.refuses(back(Scenes.USUAL), JournalDisk::mount, Bounds.STATE);
        // While it is up a mount() that is to fail is not tried.
        Bounds.refuses(waits(1).then(d -> fail(d, 3, 1, 1)), JournalDisk::mount, Bounds.STATE);
    }

    /** Six files of 16 bytes, so many of which are ORPHANs with a handle, as the COMMIT knows them. */
    private static Scene orphans(int many) {
        return d -> {
            for (int n = 1; n <= 6; n++) {
                Given.file(d, 0, n, 16);
            }
            for (int n = 1; n <= many; n++) {
                d.open(n);
                d.unlink(0, n);
            }
            d.sync();
        };
    }

    private static void mountOrphans() {
        for (int many = 0; many <= 6; many++) {
            Scene down = down(orphans(many));
            Bounds.tells(down, JournalDisk::mount, many);
            Scene up = down.then(JournalDisk::mount);
            Bounds.tells(up, JournalDisk::nodes, 7 - many);
            Bounds.tells(up, JournalDisk::used, 6 - many + (9 - many) / 4);
            Bounds.tells(up, JournalDisk::changes, 12 + many);
            Bounds.tells(up, JournalDisk::waiting, 0);
            // This lasts.
            Bounds.tells(down(up), JournalDisk::mount, 0);
            Bounds.tells(back(up), JournalDisk::nodes, 7 - many);
            Bounds.tells(up, d -> d.makeFile(0, 99), many > 0 ? 1 : 7);
        }
        // An ORPHAN only since the COMMIT is a file with its name again.
        Scene late = orphans(0).then(d -> d.open(1)).then(d -> d.unlink(0, 1));
        Bounds.tells(late, d -> d.isOrphan(1), true);
        Bounds.tells(down(late), JournalDisk::mount, 0);
        Bounds.tells(back(late), d -> d.lookup(0, 1), 1);
        // One that was removed since the COMMIT is removed by mount() as well.
        Scene closed = orphans(2).then(d -> d.close(0));
        Bounds.tells(down(closed), JournalDisk::mount, 2);
        Bounds.tells(down(closed.then(JournalDisk::sync)), JournalDisk::mount, 1);
        // What it shared with another file is that one's alone then.
        Scene shared = orphans(0).then(d -> {
            d.cloneFile(0, 7, 1);
            d.open(1);
            d.unlink(0, 1);
            d.sync();
        });
        Bounds.tells(shared, d -> d.sharedOf(7), 1);
        Bounds.tells(back(shared), d -> d.sharedOf(7), 0);
        Bounds.tells(back(shared), d -> d.byteAt(7, 15), 16);
    }

    private static void mountBack() {
        // Whatever is changed behind the COMMIT, and lost, leaves no trace.
        for (int k = 0; k < CHANGES.length; k++) {
            Scene.Ask change = CHANGES[k];
            Bounds.meet(back(waits(0).then(d -> Scene.answer(d, change))), back(waits(0)));
            Scene kept = waits(0).then(d -> Scene.answer(d, change)).then(JournalDisk::sync);
            Scene later = kept.then(d -> {
                d.makeFile(0, 60);
                d.setOwner(0, 2);
                d.setQuota(0, 3);
            });
            Bounds.meet(back(later), back(kept));
            Bounds.tells(back(kept), JournalDisk::changes, 7);
        }
        // Bytes in a BLOCK that stays as well.
        Scene bytes = waits(0).then(d -> d.write(0, 40, 200));
        Bounds.tells(back(bytes), d -> d.byteAt(1, 0), 1);
        Bounds.tells(back(bytes.then(JournalDisk::sync)), d -> d.byteAt(1, 0), 200);
        // Eight make a COMMIT: the ninth one alone is lost.
        Scene nine = waits(7).then(d -> d.setQuota(2, 1)).then(d -> d.setQuota(2, 2));
        Bounds.tells(back(nine), d -> d.quotaOf(2), 1);
        Bounds.tells(back(nine), JournalDisk::changes, 14);
    }

    private static void mountFull() {
        for (int file = 1; file <= 6; file++) {
            JournalDisk d = Given.full();
            d.sync();
            d.truncate(file, 0);
            d.cut();
            d.mount();
            Check.is(d.used(), 120);
            int size = file == 6 ? 288 : 320;
            Check.is(d.sizeOf(file), size);
            for (int at = 0; at < 320; at++) {
                Check.is(d.byteAt(file, at), at < size ? (at + 1) % 256 : 0);
            }
        }
    }

    private static void downAfter() {
        Bounds.tells(Scenes.EMPTY, JournalDisk::isDown, false);
        Bounds.tells(Scenes.EMPTY.then(JournalDisk::cut), JournalDisk::isDown, true);
        Bounds.tells(back(Scenes.EMPTY), JournalDisk::isDown, false);
        Bounds.leaves(Scenes.USUAL, JournalDisk::isDown);
        Bounds.leaves(Scenes.DOWN, JournalDisk::isDown);
        Bounds.tells(Scenes.DOWN_STILL, JournalDisk::isDown, true);
    }

    private static void mountsCounted() {
        Bounds.tells(Scenes.EMPTY, JournalDisk::mounts, 0);
        Bounds.tells(Scenes.USUAL, JournalDisk::mounts, 1);
        Bounds.tells(Scenes.DOWN, JournalDisk::mounts, 1);
        Bounds.tells(Scenes.DOWN_STILL, JournalDisk::mounts, 1);
        Bounds.tells(Scenes.DOWN_STILL.then(JournalDisk::mount), JournalDisk::mounts, 2);
        Bounds.leaves(Scenes.DOWN, JournalDisk::mounts);
        JournalDisk d = new JournalDisk();
        for (int k = 1; k <= 100; k++) {
            d.cut();
            Check.is(d.mounts(), k - 1);
            d.mount();
            Check.is(d.mounts(), k);
        }
    }

    private static void waitingCounted() {
        for (int many = 0; many <= 7; many++) {
            Bounds.tells(waits(many), JournalDisk::waiting, many);
        }
        Bounds.tells(waits(7).then(d -> d.setQuota(3, 1)), JournalDisk::waiting, 0);
        Bounds.tells(waits(7).then(d -> d.setQuota(3, 1)).then(d -> d.setQuota(3, 1)), JournalDisk::waiting, 1);
        // What is hindered or refused does not wait, and brings no COMMIT.
        Bounds.refuses(waits(7), d -> d.setQuota(3, 121), Bounds.ARGUMENT);
        Bounds.refuses(waits(7), d -> d.makeFile(0, 1), -2);
        Bounds.refuses(waits(7), d -> d.makeFile(9, 1), Bounds.INDEX);
        Bounds.leaves(waits(7), JournalDisk::waiting);
    }

    private static void changesCounted() {
        for (int many = 0; many <= 7; many++) {
            Bounds.tells(waits(many), JournalDisk::changes, 6 + many);
            Bounds.tells(back(waits(many)), JournalDisk::changes, 6);
            Bounds.tells(back(waits(many).then(JournalDisk::sync)), JournalDisk::changes, 6 + many);
        }
        Bounds.tells(back(waits(7).then(d -> d.setQuota(3, 1))), JournalDisk::changes, 14);
        Bounds.leaves(waits(7), JournalDisk::changes);
        // None of the calls for handles, locks, commits and power is one.
        JournalDisk d = waits(3).made();
        d.open(1);
        d.seek(0, 5);
        d.read(0, 3);
        d.lock(0, 0, 5, true);
        d.unlock(0, 0, 5);
        d.close(2);
        d.writeBack(1, 1);
        d.sync();
        d.flush();
        d.fail(2, 1, 1);
        Check.is(d.changes(), 9);
    }
}
