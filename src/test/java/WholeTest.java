/** Promises 59 to 65: all of it, asked. */
public final class WholeTest {
    public static void main(String[] args) {
        Check.test("promise 59: used", WholeTest::used);
        Check.test("promise 60: usedBy", WholeTest::usedBy);
        Check.test("promise 61: quotaOf", WholeTest::quotaOf);
        Check.test("promise 62: greatestFile", WholeTest::greatestFile);
        Check.test("promise 63: meanSize", WholeTest::meanSize);
        Check.test("promise 64: flaws", WholeTest::flaws);
        Check.test("promise 65: digest", WholeTest::digest);
        Check.test("promise 65: digest, as it is computed", WholeTest::digestComputed);
        Check.end();
    }

    private static void used() {
        JournalDisk d = new JournalDisk();
        Check.is(d.used(), 0);
        Given.file(d, 0, 1, 33);
        Check.is(d.used(), 4);
        d.cloneFile(0, 2, 1);
        d.makeFolder(0, 3);
        Check.is(d.used(), 4);
        d.makeFile(3, 1);
        Check.is(d.used(), 5);
        d.open(2);
        d.unlink(0, 2);
        d.unlink(0, 1);
        Check.is(d.used(), 5);
        d.close(0);
        Check.is(d.used(), 2);
        Check.is(Given.full().used(), 120);
        Check.down(x -> x.used());
    }

    private static void usedBy() {
        JournalDisk d = new JournalDisk();
        Given.file(d, 0, 1, 33);
        d.cloneFile(0, 2, 1);
        Check.is(d.usedBy(0), 7);
        d.setOwner(2, 3);
        Check.is(d.usedBy(0), 4);
        Check.is(d.usedBy(3), 3);
        d.setOwner(0, 1);
        Check.is(d.usedBy(0), 3);
        Check.is(d.usedBy(1), 1);
        d.open(2);
        d.unlink(0, 2);
        Check.is(d.usedBy(3), 3);
        d.close(0);
        Check.is(d.usedBy(3), 0);
        Check.is(d.usedBy(2), 0);
        Check.argument(() -> d.usedBy(-1));
        Check.argument(() -> d.usedBy(4));
        Check.down(x -> x.usedBy(4));
    }

    private static void quotaOf() {
        JournalDisk d = new JournalDisk();
        d.setQuota(0, 0);
        d.setQuota(3, 119);
        Check.is(d.quotaOf(0), 0);
        Check.is(d.quotaOf(1), 120);
        Check.is(d.quotaOf(3), 119);
        Check.argument(() -> d.quotaOf(-1));
        Check.argument(() -> d.quotaOf(4));
        Check.down(x -> x.quotaOf(4));
    }

    private static void greatestFile() {
        JournalDisk d = new JournalDisk();
        Check.is(d.greatestFile(), -1);
        d.makeFolder(0, 1);
        d.makeLink(0, 2, 0, 0, 0);
        Check.is(d.greatestFile(), -1);
        d.makeFile(0, 3);
        d.makeFile(0, 4);
        Check.is(d.greatestFile(), 3);
        d.truncate(3, 320);
        Given.fill(d, 4, 1);
        Check.is(d.greatestFile(), 4);
        Given.fill(d, 3, 16);
        Check.is(d.greatestFile(), 3);
        Given.file(d, 0, 5, 17);
        Check.is(d.greatestFile(), 5);
        d.open(5);
        d.unlink(0, 5);
        Check.is(d.greatestFile(), 5);
        d.close(0);
        Check.is(d.greatestFile(), 3);
        Check.down(x -> x.greatestFile());
    }

    private static void meanSize() {
        JournalDisk d = new JournalDisk();
        Check.isReal(d.meanSize(), 0.0);
        d.makeFolder(0, 1);
        d.makeLink(0, 2, 0, 1, 1);
        Check.isReal(d.meanSize(), 0.0);
        Given.file(d, 0, 3, 10);
        Check.isReal(d.meanSize(), 10.0);
        d.makeFile(0, 4);
        d.truncate(4, 1);
        Check.isReal(d.meanSize(), 5.5);
        d.makeFile(0, 5);
        Check.isReal(d.meanSize(), 11.0 / 3.0);
        d.open(3);
        d.unlink(0, 3);
        Check.isReal(d.meanSize(), 11.0 / 3.0);
        Check.down(x -> x.meanSize());
    }

    private static void flaws() {
        JournalDisk d = Given.full();
        Check.is(d.flaws(), 0);
        d.fail(1, 1, 3);
        d.sync();
        d.mount();
        Check.is(d.flaws(), 0);
        Check.down(x -> x.flaws());
    }

    private static void digest() {
        JournalDisk d = new JournalDisk();
        long before = d.digest();
        Check.is(d.digest(), before);
        d.setQuota(3, 119);
        Check.is(d.digest() == before, false);
        Check.down(x -> x.digest());
        JournalDisk n = new JournalDisk();
        // Of the new object by hand: 1 node, 120 of each user, and the ROOT.
        long[] row = {1, 0, 0, 0, 0, 0, 0, 120, 0, 120, 0, 120, 0, 120, -1, 0, 2, 0, 0, 0, 0, 0, 0, 0, 0, 0};
        long sum = 58004;
        for (long x : row) {
            sum = sum * 31 + x;
        }
        Check.is(n.digest(), sum);
    }

    private static long sum;

    private static void add(long x) {
        sum = sum * 31 + x;
    }

    private static void digestComputed() {
        JournalDisk d = new JournalDisk();
        Given.file(d, 0, 7, 90);
        d.makeFolder(0, 3);
        d.makeLink(2, 5, 1, 7, 0);
        d.makeLink(2, 4, 0, 4, 0);
        d.cloneFile(2, 9, 1);
        d.setOwner(1, 2);
        Given.file(d, 0, 8, 60);
        d.cut();
        d.mount();
        d.open(1);
        d.open(5);
        d.seek(1, 77);
        d.lock(1, 5, 6, true);
        d.lock(1, 50, 6, true);
        Check.is(computed(d), d.digest());
    }

    /** The checksum, told from the other answers alone. */
    private static long computed(JournalDisk d) {
        sum = 58004;
        add(d.nodes());
        add(d.changes());
        add(d.waiting());
        add(d.handles());
        add(d.mounts());
        add(d.used());
        for (int user = 0; user < 4; user++) {
            add(d.usedBy(user));
            add(d.quotaOf(user));
        }
        add(d.greatestFile());
        for (int n = 0; n < 32; n++) {
            if (d.typeOf(n) != 0) {
                addNode(d, n);
            }
        }
        for (int h = 0; h < d.handles(); h++) {
            add(h);
            add(d.nodeOf(h));
            add(d.positionOf(h));
            add(d.lockRows(h));
        }
        return sum;
    }

    private static void addNode(JournalDisk d, int n) {
        int[] row = {
            n, d.typeOf(n), d.linksOf(n), d.ownerOf(n), d.sizeOf(n), d.blocksOf(n), d.sharedOf(n), d.parentOf(n),
            d.depthOf(n), d.blocksUnder(n), d.wouldFree(n)
        };
        for (int x : row) {
            add(x);
        }
        int type = row[1];
        int size = row[4];
        for (int k = 0; k < size; k++) {
            if (type == 1) {
                add(d.byteAt(n, k));
            } else if (type == 2) {
                add(d.nameAt(n, k));
                add(d.lookup(n, d.nameAt(n, k)));
                add(d.follow(n, d.nameAt(n, k)));
            }
        }
    }
}
