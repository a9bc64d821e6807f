/** Promises 11 to 16 at their edges: what is in files, and whose they are. */
public final class EdgesOfBytesTest {
    public static void main(String[] args) {
        Check.test("promise 11: length is 1 to 64", EdgesOfBytesTest::writeLength);
        Check.test("promise 11: value is 0 to 255, behind 255 comes 0", EdgesOfBytesTest::writeValue);
        Check.test("promise 11: the handle is not open", EdgesOfBytesTest::writeHandle);
        Check.test("promise 11: it is DOWN", () -> Bounds.down(d -> d.write(9, 0, 300)));
        Check.test("promise 11: -5 with an end at 319, 320, 321", EdgesOfBytesTest::writeEnd);
        Check.test("promise 11: all places that are touched", EdgesOfBytesTest::writePlaces);
        Check.test("promise 11: a byte that is written over, and those beside it", EdgesOfBytesTest::writeOver);
        Check.test("promise 11: SIZE is where they end, if it was less", EdgesOfBytesTest::writeSize);
        Check.test("promise 11: the POSITION is behind them", EdgesOfBytesTest::writePosition);
        Check.test("promise 11: a HOLE gets zeros", EdgesOfBytesTest::writeHole);
        Check.test("promise 11: a SHARED BLOCK is left to the others", EdgesOfBytesTest::writeShared);
        Check.test("promise 11: -7 by the places without a BLOCK", EdgesOfBytesTest::writeRoom);
        Check.test("promise 11: -7 by SHARED places", EdgesOfBytesTest::writeRoomShared);
        Check.test("promise 11: -8 at the QUOTA", EdgesOfBytesTest::writeQuota);
        Check.test("promise 11: -5 ahead of -7 ahead of -8", EdgesOfBytesTest::writeOrder);
        Check.test("promise 12: size is 0 to 320", EdgesOfBytesTest::truncateSize);
        Check.test("promise 12: there is no such node", () -> Bounds.noNode((d, x) -> d.truncate(x, 321)));
        Check.test("promise 12: it is DOWN", () -> Bounds.down(d -> d.truncate(40, 321)));
        Check.test("promise 12: node is no file", EdgesOfBytesTest::truncateNoFile);
        Check.test("promise 12: less, at the edges of places", EdgesOfBytesTest::truncateLess);
        Check.test("promise 12: not less", EdgesOfBytesTest::truncateMore);
        Check.test("promise 12: a HOLE stays one", EdgesOfBytesTest::truncateHole);
        Check.test("promise 12: a SHARED BLOCK in which SIZE is", EdgesOfBytesTest::truncateShared);
        Check.test("promise 12: -7 behind the whole of it", EdgesOfBytesTest::truncateRoom);
        Check.test("promise 12: a QUOTA never hinders it", EdgesOfBytesTest::truncateQuota);
        Check.test("promise 13: place is 0 to 19", EdgesOfBytesTest::punchPlace);
        Check.test("promise 13: there is no such node", () -> Bounds.noNode((d, x) -> d.punch(x, 20)));
        Check.test("promise 13: it is DOWN", () -> Bounds.down(d -> d.punch(40, 20)));
        Check.test("promise 13: node is no file", EdgesOfBytesTest::punchNoFile);
        Check.test("promise 13: a BLOCK, a HOLE, a SHARED one", EdgesOfBytesTest::punchSorts);
        Check.test("promise 14: place is 0 to 19", EdgesOfBytesTest::sharePlace);
        Check.test("promise 14: fromPlace is 0 to 19", EdgesOfBytesTest::shareFromPlace);
        Check.test("promise 14: there is no such node", EdgesOfBytesTest::shareNodes);
        Check.test("promise 14: it is DOWN", () -> Bounds.down(d -> d.share(40, 20, 40, 20)));
        Check.test("promise 14: node or from is no file", EdgesOfBytesTest::shareNoFile);
        Check.test("promise 14: -6 in the same file", EdgesOfBytesTest::shareWithin);
        Check.test("promise 14: -6 if it has the BLOCK already", EdgesOfBytesTest::shareTwice);
        Check.test("promise 14: -5 by the SIZE of node", EdgesOfBytesTest::shareSize);
        Check.test("promise 14: -8 at the QUOTA", EdgesOfBytesTest::shareQuota);
        Check.test("promise 14: what it had there goes", EdgesOfBytesTest::shareReplaces);
        Check.test("promise 14: the same file and place", EdgesOfBytesTest::shareItself);
        Check.test("promise 15: user is 0 to 3", EdgesOfBytesTest::ownerUser);
        Check.test("promise 15: there is no such node", () -> Bounds.noNode((d, x) -> d.setOwner(x, 4)));
        Check.test("promise 15: it is DOWN", () -> Bounds.down(d -> d.setOwner(40, 4)));
        Check.test("promise 15: -8 at the QUOTA", EdgesOfBytesTest::ownerQuota);
        Check.test("promise 16: user is 0 to 3", EdgesOfBytesTest::quotaUser);
        Check.test("promise 16: quota is 0 to 120", EdgesOfBytesTest::quotaRange);
        Check.test("promise 16: it is DOWN", () -> Bounds.down(d -> d.setQuota(4, 121)));
        Check.test("promise 16: also if it uses more", EdgesOfBytesTest::quotaBelow);
        Check.end();
    }

    /** File 1 (named 1) with so many bytes, and handle 0 on it at a POSITION. */
    private static Scene file(int bytes, int position) {
        return d -> {
            Given.file(d, 0, 1, bytes);
            d.open(1);
            d.seek(0, position);
        };
    }

    // ---- promise 11

    private static void writeLength() {
        // Handle 0 is at 9 of 16 bytes.
        Bounds.range(Scenes.USUAL, 1, 64, (d, x) -> d.write(0, x, 1), x -> Math.max(16, 9 + x));
        Bounds.range(file(0, 0), 1, 64, (d, x) -> d.write(0, x, 1), x -> x);
        // Ahead of -5.
        Bounds.refuses(file(0, 320), d -> d.write(0, 0, 1), Bounds.ARGUMENT);
        Bounds.refuses(file(0, 320), d -> d.write(0, 65, 1), Bounds.ARGUMENT);
    }

    private static void writeValue() {
        Bounds.range(Scenes.USUAL, 0, 255, (d, x) -> d.write(0, 2, x), x -> 16);
        for (int value = 0; value <= 255; value++) {
            JournalDisk d = file(0, 0).made();
            d.write(0, 64, value);
            for (int k = 0; k < 64; k++) {
                Check.is(d.byteAt(1, k), (value + k) % 256);
            }
        }
        Bounds.refuses(file(0, 320), d -> d.write(0, 1, 256), Bounds.ARGUMENT);
        Bounds.refuses(file(0, 320), d -> d.write(0, 1, -1), Bounds.ARGUMENT);
    }

    private static void writeHandle() {
        Bounds.noHandle((d, x) -> d.write(x, 1, 1));
        Bounds.noHandle((d, x) -> d.write(x, 0, 256));
    }

    private static void writeEnd() {
        int[][] ends = {{255, 64}, {256, 64}, {318, 1}, {319, 1}, {317, 2}, {318, 2}, {0, 1}, {272, 48}};
        for (int[] end : ends) {
            Bounds.tells(file(0, end[0]), d -> d.write(0, end[1], 1), end[0] + end[1]);
        }
        int[][] tooLong = {{257, 64}, {320, 1}, {319, 2}, {318, 3}, {320, 64}};
        for (int[] end : tooLong) {
            Bounds.refuses(file(0, end[0]), d -> d.write(0, end[1], 1), -5);
            Bounds.refuses(file(320, end[0]), d -> d.write(0, end[1], 1), -5);
        }
    }

    private static void writePlaces() {
        int[][] rows = {
            {0, 1, 0, 0}, {0, 16, 0, 0}, {0, 17, 0, 1}, {15, 1, 0, 0}, {15, 2, 0, 1}, {16, 1, 1, 1}, {16, 16, 1, 1},
            {16, 17, 1, 2}, {0, 63, 0, 3}, {0, 64, 0, 3}, {1, 63, 0, 3}, {1, 64, 0, 4}, {15, 64, 0, 4},
            {16, 64, 1, 4}, {303, 1, 18, 18}, {303, 2, 18, 19}, {304, 1, 19, 19}, {304, 16, 19, 19},
            {319, 1, 19, 19}, {256, 64, 16, 19}
        };
        for (int[] row : rows) {
            JournalDisk d = file(0, row[0]).made();
            Check.is(d.write(0, row[1], 1), row[0] + row[1]);
            for (int place = 0; place < 20; place++) {
                Check.is(d.isHole(1, place), place < row[2] || place > row[3]);
            }
            Check.is(d.used(), 2 + row[3] - row[2]);
            for (int at = 0; at < 320; at++) {
                boolean isWritten = at >= row[0] && at < row[0] + row[1];
                Check.is(d.byteAt(1, at), isWritten ? at - row[0] + 1 : 0);
            }
        }
    }

    private static void writeOver() {
        int[][] values = {{255, 0}, {0, 255}, {255, 127}, {128, 1}, {170, 85}, {1, 254}};
        for (int[] row : values) {
            for (int at = 0; at < 64; at++) {
                JournalDisk d = file(0, 0).made();
                for (int k = 0; k < 64; k++) {
                    d.write(0, 1, row[0]);
                }
                d.seek(0, at);
                Check.is(d.write(0, 1, row[1]), 64);
                for (int k = 0; k < 64; k++) {
                    Check.is(d.byteAt(1, k), k == at ? row[1] : row[0]);
                }
            }
        }
    }

    private static void writeSize() {
        for (int size = 8; size <= 12; size++) {
            JournalDisk d = file(size, 5).made();
            Check.is(d.write(0, 5, 100), Math.max(size, 10));
            Check.is(d.sizeOf(1), Math.max(size, 10));
            Check.is(d.byteAt(1, 4), 5);
            Check.is(d.byteAt(1, 5), 100);
            Check.is(d.byteAt(1, 9), 104);
            Check.is(d.byteAt(1, 10), size > 10 ? 11 : 0);
        }
        Bounds.tells(file(320, 319), d -> d.write(0, 1, 1), 320);
    }

    private static void writePosition() {
        for (int length : new int[] {1, 2, 63, 64}) {
            Bounds.tells(file(0, 7).then(d -> d.write(0, length, 1)), d -> d.positionOf(0), 7 + length);
        }
        Bounds.tells(file(0, 319).then(d -> d.write(0, 1, 1)), d -> d.positionOf(0), 320);
        // Other handles stay where they are, also on the same file.
        JournalDisk d = Scenes.USUAL.made();
        Check.is(d.write(1, 5, 1), 40);
        Check.is(d.positionOf(1), 12);
        Check.is(d.positionOf(2), 0);
        Check.is(d.positionOf(0), 9);
    }

    private static void writeHole() {
        // What was in a BLOCK ahead of its place becoming a HOLE does not come back.
        JournalDisk d = file(64, 20).made();
        d.punch(1, 1);
        Check.is(d.write(0, 1, 77), 64);
        for (int at = 16; at < 32; at++) {
            Check.is(d.byteAt(1, at), at == 20 ? 77 : 0);
        }
        Check.is(d.byteAt(1, 15), 16);
        Check.is(d.byteAt(1, 32), 33);
        // Nor that of a file that is gone.
        JournalDisk e = file(320, 0).made();
        e.close(0);
        e.unlink(0, 1);
        e.makeFile(0, 2);
        e.open(1);
        e.seek(0, 100);
        e.write(0, 1, 5);
        for (int at = 0; at < 320; at++) {
            Check.is(e.byteAt(1, at), at == 100 ? 5 : 0);
        }
        // Behind SIZE of a file that was longer are zeros as well.
        JournalDisk f = file(64, 40).made();
        f.truncate(1, 35);
        f.write(0, 1, 5);
        for (int at = 35; at < 64; at++) {
            Check.is(f.byteAt(1, at), at == 40 ? 5 : 0);
        }
    }

    private static void writeShared() {
        // File 1 and its clones 2 and 3 have the same BLOCK: two get their own, the last one keeps it.
        Scene scene = file(16, 0).then(d -> {
            d.cloneFile(0, 2, 1);
            d.cloneFile(0, 3, 1);
            d.open(2);
            d.open(3);
        });
        int[] used = {3, 4, 4};
        JournalDisk d = scene.made();
        for (int k = 0; k < 3; k++) {
            Check.is(d.write(k, 1, 100 + k), 16);
            Check.is(d.used(), used[k]);
            for (int n = 1; n <= 3; n++) {
                Check.is(d.byteAt(n, 0), n <= k + 1 ? 99 + n : 1);
                Check.is(d.byteAt(n, 1), 2);
                Check.is(d.sharedOf(n), k == 0 && n > 1 ? 1 : 0);
            }
        }
    }

    /** As room(), with handle 0 on the empty file 7 at a POSITION. */
    private static Scene roomAt(int spare, int position) {
        return Scenes.room(spare).then(d -> {
            d.open(7);
            d.seek(0, position);
        });
    }

    private static void writeRoom() {
        // 64 bytes touch 4 places at 0 and 5 places at 1 to 15.
        int[][] rows = {{0, 64, 4}, {1, 64, 5}, {15, 64, 5}, {16, 64, 4}, {0, 1, 1}, {15, 1, 1}, {15, 2, 2}};
        for (int[] row : rows) {
            Bounds.refuses(roomAt(row[2] - 1, row[0]), d -> d.write(0, row[1], 1), -7);
            for (int more = 0; more <= 1; more++) {
                Scene scene = roomAt(row[2] + more, row[0]);
                Bounds.tells(scene, d -> d.write(0, row[1], 1), row[0] + row[1]);
                Bounds.tells(scene.then(d -> d.write(0, row[1], 1)), JournalDisk::used, 120 - more);
            }
        }
        // In a place with a BLOCK that is not SHARED there is room with 120 USED.
        Scene full = Scenes.room(0).then(d -> d.open(2));
        Bounds.tells(full, d -> d.write(0, 64, 1), 320);
        Bounds.tells(full.then(d -> d.write(0, 64, 1)), JournalDisk::used, 120);
    }

    /** 120 - spare are USED; file 9 of user 2 is a clone of file 1, but for its first places; handle 0 is on it. */
    private static Scene roomShared(int spare) {
        return Scenes.room(spare + 1).then(d -> {
            d.setOwner(8, 2);
            d.cloneFile(8, 1, 1);
            d.open(9);
        });
    }

    private static void writeRoomShared() {
        Bounds.tells(roomShared(0), JournalDisk::used, 120);
        Bounds.refuses(roomShared(0).then(d -> d.seek(0, 160)), d -> d.write(0, 1, 1), -7);
        Bounds.tells(roomShared(1).then(d -> d.seek(0, 160)), d -> d.write(0, 1, 1), 320);
        Bounds.refuses(roomShared(1).then(d -> d.seek(0, 175)), d -> d.write(0, 2, 1), -7);
        Bounds.tells(roomShared(2).then(d -> d.seek(0, 175)), d -> d.write(0, 2, 1), 320);
        Bounds.refuses(roomShared(3).then(d -> d.seek(0, 160)), d -> d.write(0, 64, 1), -7);
        Bounds.tells(roomShared(4).then(d -> d.seek(0, 160)), d -> d.write(0, 64, 1), 320);
        // File 1 writes into them as well, and has to find room for its own.
        Bounds.refuses(roomShared(0).then(d -> d.open(1)).then(d -> d.seek(1, 319)), d -> d.write(1, 1, 1), -7);
    }

    private static void writeQuota() {
        // User 0 USES 1 BLOCK for the ROOT, and would use one more for each place.
        int[][] rows = {{0, 1, 1}, {0, 16, 1}, {0, 17, 2}, {0, 64, 4}, {15, 64, 5}};
        for (int[] row : rows) {
            for (int more = -1; more <= 1; more++) {
                int quota = 1 + row[2] + more;
                Scene scene = file(0, row[0]).then(d -> d.setQuota(0, quota));
                if (more < 0) {
                    Bounds.refuses(scene, d -> d.write(0, row[1], 1), -8);
                } else {
                    Bounds.tells(scene, d -> d.write(0, row[1], 1), row[0] + row[1]);
                }
            }
        }
        // No more than now: into a BLOCK, and into a SHARED one, which is counted already.
        Bounds.tells(file(16, 0).then(d -> d.setQuota(0, 0)), d -> d.write(0, 16, 1), 16);
        Bounds.refuses(file(16, 0).then(d -> d.setQuota(0, 0)), d -> d.write(0, 17, 1), -8);
        Scene shared = file(16, 0).then(d -> d.cloneFile(0, 2, 1)).then(d -> d.setQuota(0, 0));
        Bounds.tells(shared, d -> d.write(0, 16, 1), 16);
        Bounds.tells(shared.then(d -> d.write(0, 16, 1)), JournalDisk::used, 3);
        // It is the OWNER of the file that is asked, also of an ORPHAN.
        Scene owned = file(0, 0).then(d -> {
            d.setOwner(1, 3);
            d.setQuota(0, 0);
            d.unlink(0, 1);
        });
        Bounds.refuses(owned.then(d -> d.setQuota(3, 0)), d -> d.write(0, 1, 1), -8);
        Bounds.tells(owned.then(d -> d.setQuota(3, 1)), d -> d.write(0, 1, 1), 1);
    }

    private static void writeOrder() {
        Scene poor = roomAt(0, 257).then(d -> d.setQuota(0, 0));
        Bounds.refuses(poor, d -> d.write(0, 64, 1), -5);
        Bounds.refuses(poor, d -> d.write(0, 63, 1), -7);
        Bounds.refuses(poor.then(d -> d.truncate(2, 0)), d -> d.write(0, 63, 1), -8);
        Bounds.refuses(poor.then(d -> d.truncate(2, 0)), d -> d.write(0, 64, 1), -5);
        Bounds.refuses(poor, d -> d.write(0, 65, 1), Bounds.ARGUMENT);
    }

    // ---- promise 12

    private static void truncateSize() {
        Bounds.range(Scenes.USUAL, 0, 320, (d, x) -> d.truncate(1, x), x -> 40);
        for (int size : new int[] {0, 1, 39, 40, 41, 319, 320}) {
            Bounds.tells(Scenes.USUAL.then(d -> d.truncate(1, size)), d -> d.sizeOf(1), size);
        }
        Bounds.refuses(Scenes.USUAL, d -> d.truncate(0, -1), Bounds.ARGUMENT);
        Bounds.refuses(Scenes.USUAL, d -> d.truncate(4, 321), Bounds.ARGUMENT);
    }

    private static void truncateNoFile() {
        for (int node : new int[] {0, 2, 4}) {
            Bounds.refuses(Scenes.USUAL, d -> d.truncate(node, 0), -3);
            Bounds.refuses(Scenes.USUAL, d -> d.truncate(node, 320), -3);
        }
        // An ORPHAN is a file.
        Bounds.tells(Scenes.USUAL, d -> d.truncate(6, 0), 16);
    }

    private static void truncateLess() {
        for (int size = 0; size <= 63; size++) {
            JournalDisk d = new JournalDisk();
            Given.file(d, 0, 1, 64);
            Check.is(d.truncate(1, size), 64);
            Check.is(d.sizeOf(1), size);
            Check.is(d.blocksOf(1), (size + 15) / 16);
            Check.is(d.used(), 1 + (size + 15) / 16);
            for (int place = 0; place < 20; place++) {
                Check.is(d.isHole(1, place), place * 16 >= size);
            }
            // Longer again: what was cut off is gone.
            Check.is(d.truncate(1, 64), size);
            for (int at = 0; at < 64; at++) {
                Check.is(d.byteAt(1, at), at < size ? at + 1 : 0);
            }
            Check.is(d.blocksOf(1), (size + 15) / 16);
        }
    }

    private static void truncateMore() {
        for (int size : new int[] {40, 41, 47, 48, 49, 319, 320}) {
            JournalDisk d = new JournalDisk();
            Given.file(d, 0, 1, 40);
            d.cloneFile(0, 2, 1);
            Check.is(d.truncate(1, size), 40);
            Check.is(d.sizeOf(1), size);
            Check.is(d.blocksOf(1), 3);
            Check.is(d.sharedOf(1), 3);
            Check.is(d.used(), 4);
            for (int at = 0; at < 60; at++) {
                Check.is(d.byteAt(1, at), at < 40 ? at + 1 : 0);
            }
        }
        Scene usual = Scenes.USUAL;
        Bounds.meet(usual.then(d -> d.truncate(1, 40)), usual.then(d -> d.setQuota(3, 50)));
        Bounds.meet(usual.then(d -> d.truncate(3, 50)), usual.then(d -> d.setQuota(3, 50)));
        Scene full = Scenes.room(0).then(d -> d.setQuota(0, 0));
        Bounds.tells(full, d -> d.truncate(7, 320), 0);
        Bounds.tells(full, d -> d.truncate(2, 320), 320);
    }

    private static void truncateHole() {
        for (int size = 31; size <= 49; size++) {
            JournalDisk d = new JournalDisk();
            Given.file(d, 0, 1, 64);
            d.punch(1, 2);
            d.truncate(1, size);
            Check.is(d.isHole(1, 2), true);
            Check.is(d.blocksOf(1), size == 49 ? 3 : 2);
            Check.is(d.byteAt(1, 33), 0);
        }
    }

    private static void truncateShared() {
        for (int size = 15; size <= 49; size++) {
            JournalDisk d = new JournalDisk();
            Given.file(d, 0, 1, 50);
            d.cloneFile(0, 2, 1);
            d.truncate(1, size);
            int whole = size / 16;
            int part = size % 16 == 0 ? 0 : 1;
            Check.is(d.sharedOf(1), whole);
            Check.is(d.blocksOf(1), whole + part);
            Check.is(d.sharedOf(2), whole);
            Check.is(d.used(), 5 + part);
            for (int at = 0; at < 64; at++) {
                Check.is(d.byteAt(1, at), at < size ? at + 1 : 0);
                Check.is(d.byteAt(2, at), at < 50 ? at + 1 : 0);
            }
        }
        // Zeros are written also where there are none but zeros: file 1 gets a BLOCK of its own.
        Scene zeros = file(33, 39).then(d -> {
            d.write(0, 1, 0);
            d.cloneFile(0, 2, 1);
        });
        Bounds.tells(zeros, d -> d.sharedOf(1), 3);
        Bounds.tells(zeros.then(d -> d.truncate(1, 39)), d -> d.sharedOf(1), 2);
        Bounds.tells(zeros.then(d -> d.truncate(1, 40)), d -> d.sharedOf(1), 3);
        Bounds.tells(zeros.then(d -> d.truncate(1, 39)), JournalDisk::used, 5);
    }

    private static void truncateRoom() {
        // File 9 has 320 bytes, the places from 1 on are SHARED with file 1.
        for (int size : new int[] {319, 305}) {
            Bounds.refuses(roomShared(0), d -> d.truncate(9, size), -7);
            Bounds.tells(roomShared(1), d -> d.truncate(9, size), 320);
            Bounds.tells(roomShared(1).then(d -> d.truncate(9, size)), JournalDisk::used, 120);
            Bounds.tells(roomShared(2).then(d -> d.truncate(9, size)), JournalDisk::used, 119);
        }
        // A SIZE that begins a place writes nothing; nor one in a HOLE.
        Bounds.tells(roomShared(0), d -> d.truncate(9, 304), 320);
        Bounds.tells(roomShared(0), d -> d.truncate(9, 320), 320);
        Bounds.tells(roomShared(0), d -> d.truncate(9, 15), 320);
        Bounds.refuses(roomShared(0), d -> d.truncate(9, 17), -7);
        // A BLOCK of its own at the last place, which goes, makes room for place 18.
        Scene own = roomShared(1).then(d -> {
            d.seek(0, 319);
            d.write(0, 1, 1);
        });
        Bounds.tells(own, JournalDisk::used, 120);
        Bounds.tells(own, d -> d.truncate(9, 303), 320);
        Bounds.tells(own.then(d -> d.truncate(9, 303)), JournalDisk::used, 120);
        Bounds.tells(own, d -> d.truncate(9, 305), 320);
        Bounds.tells(own, d -> d.truncate(9, 304), 320);
        Bounds.tells(own.then(d -> d.truncate(9, 304)), JournalDisk::used, 119);
        // -7 ahead of -8 needs no test of its own: no truncate() lets a user use more.
        Bounds.refuses(roomShared(0).then(d -> d.setQuota(2, 0)), d -> d.truncate(9, 319), -7);
    }

    private static void truncateQuota() {
        Scene poor = file(50, 0).then(d -> d.cloneFile(0, 2, 1)).then(d -> d.setQuota(0, 0));
        for (int size : new int[] {0, 1, 16, 17, 49, 50, 51, 320}) {
            Bounds.tells(poor, d -> d.truncate(1, size), 50);
        }
    }

    // ---- promise 13

    private static void punchPlace() {
        // File 3 has 50 bytes, at the places 0 to 3.
        Bounds.range(Scenes.USUAL, 0, 19, (d, x) -> d.punch(3, x), x -> x < 4 ? 1 : 0);
        for (int place = 0; place < 20; place++) {
            int at = place;
            Bounds.tells(Scenes.USUAL, d -> d.punch(3, at), place < 4 ? 1 : 0);
            Bounds.tells(Scenes.USUAL.then(d -> d.punch(3, at)), d -> d.isHole(3, at), true);
            Bounds.tells(Scenes.USUAL.then(d -> d.punch(3, at)), d -> d.sizeOf(3), 50);
            Bounds.tells(Scenes.USUAL.then(d -> d.punch(3, at)), d -> d.blocksOf(3), place < 4 ? 3 : 4);
        }
        Bounds.refuses(Scenes.USUAL, d -> d.punch(0, 20), Bounds.ARGUMENT);
        Bounds.refuses(Scenes.USUAL, d -> d.punch(4, -1), Bounds.ARGUMENT);
    }

    private static void punchNoFile() {
        for (int node : new int[] {0, 2, 4}) {
            Bounds.refuses(Scenes.USUAL, d -> d.punch(node, 0), -3);
            Bounds.refuses(Scenes.USUAL, d -> d.punch(node, 19), -3);
        }
        Bounds.tells(Scenes.USUAL, d -> d.punch(6, 0), 1);
    }

    private static void punchSorts() {
        JournalDisk d = file(320, 0).made();
        Check.is(d.punch(1, 19), 1);
        Check.is(d.punch(1, 19), 0);
        Check.is(d.sizeOf(1), 320);
        Check.is(d.used(), 20);
        Check.is(d.byteAt(1, 319), 0);
        Check.is(d.byteAt(1, 303), 48);
        Check.is(d.changes(), 8);
        // The other file keeps a SHARED one.
        JournalDisk e = file(32, 0).made();
        e.cloneFile(0, 2, 1);
        Check.is(e.punch(1, 0), 1);
        Check.is(e.sharedOf(2), 1);
        Check.is(e.byteAt(2, 0), 1);
        Check.is(e.used(), 3);
        Scene poor = Scenes.room(0).then(x -> x.setQuota(0, 0));
        Bounds.tells(poor, x -> x.punch(7, 0), 0);
        Bounds.tells(poor, x -> x.punch(2, 0), 1);
    }

    // ---- promise 14

    /** File 1 with 320 bytes, and file 2 of 320 bytes without BLOCKS. */
    private static void whole(JournalDisk d) {
        Given.file(d, 0, 1, 320);
        d.makeFile(0, 2);
        d.truncate(2, 320);
    }

    private static void sharePlace() {
        Scene scene = EdgesOfBytesTest::whole;
        Bounds.range(scene, 0, 19, (d, x) -> d.share(2, x, 1, 5), x -> 1);
        for (int place = 0; place < 20; place++) {
            int at = place;
            Scene shared = scene.then(d -> d.share(2, at, 1, 5));
            Bounds.tells(shared, d -> d.nextData(2, 0), 16 * place);
            Bounds.tells(shared, d -> d.byteAt(2, 16 * at), 81);
            Bounds.tells(shared, d -> d.sharedOf(2), 1);
        }
        Bounds.wrong(Scenes.USUAL, 0, 19, (d, x) -> d.share(1, x, 3, 0));
        Bounds.wrong(Scenes.USUAL, 0, 19, (d, x) -> d.share(0, x, 4, 0));
    }

    private static void shareFromPlace() {
        Scene scene = EdgesOfBytesTest::whole;
        Bounds.range(scene, 0, 19, (d, x) -> d.share(2, 5, 1, x), x -> 1);
        for (int place = 0; place < 20; place++) {
            int at = place;
            Scene shared = scene.then(d -> d.share(2, 5, 1, at));
            Bounds.tells(shared, d -> d.byteAt(2, 80), (16 * place + 1) % 256);
            Bounds.tells(shared, d -> d.byteAt(2, 95), (16 * place + 16) % 256);
            Bounds.tells(shared, JournalDisk::used, 21);
        }
        Bounds.wrong(Scenes.USUAL, 0, 19, (d, x) -> d.share(1, 0, 3, x));
        Bounds.wrong(Scenes.USUAL, 0, 19, (d, x) -> d.share(0, 0, 4, x));
        Bounds.wrong(Scenes.USUAL, 0, 19, (d, x) -> d.share(1, x, 1, x));
    }

    private static void shareNodes() {
        Bounds.noNode((d, x) -> d.share(x, 0, 1, 0));
        Bounds.noNode((d, x) -> d.share(1, 0, x, 0));
        Bounds.noNode((d, x) -> d.share(x, -1, 0, 20));
        Bounds.noNode((d, x) -> d.share(0, 20, x, -1));
    }

    private static void shareNoFile() {
        for (int node : new int[] {0, 2, 4}) {
            Bounds.refuses(Scenes.USUAL, d -> d.share(node, 0, 1, 0), -3);
            Bounds.refuses(Scenes.USUAL, d -> d.share(1, 0, node, 0), -3);
            // Ahead of -6 and -5.
            Bounds.refuses(Scenes.USUAL, d -> d.share(node, 0, node, 1), -3);
            Bounds.refuses(Scenes.USUAL, d -> d.share(1, 19, node, 0), -3);
        }
        Bounds.tells(Scenes.USUAL, d -> d.share(1, 0, 6, 0), 1);
        Bounds.tells(Scenes.USUAL, d -> d.share(6, 0, 1, 0), 1);
    }

    private static void shareWithin() {
        // File 3 has BLOCKS at 0 to 3; 50 bytes, so the places 0 to 2 end ahead of SIZE.
        for (int place = 0; place < 20; place += 3) {
            for (int from = 0; from < 20; from++) {
                int at = place;
                int other = from;
                if (place != from) {
                    Bounds.refuses(Scenes.USUAL, d -> d.share(3, at, 3, other), -6);
                }
            }
        }
    }

    private static void shareTwice() {
        // File 5 is a clone of file 1, with 40 bytes at the places 0 to 2.
        Bounds.refuses(Scenes.USUAL, d -> d.share(5, 0, 1, 1), -6);
        Bounds.refuses(Scenes.USUAL, d -> d.share(5, 1, 1, 0), -6);
        Bounds.refuses(Scenes.USUAL, d -> d.share(1, 1, 5, 2), -6);
        // Ahead of -5: place 2 does not end ahead of 40; and so where it has the BLOCK itself.
        Bounds.refuses(Scenes.USUAL, d -> d.share(5, 2, 1, 1), -6);
        Bounds.refuses(Scenes.USUAL, d -> d.share(5, 19, 1, 1), -6);
        Bounds.refuses(Scenes.USUAL, d -> d.share(5, 2, 1, 2), -5);
        Bounds.refuses(Scenes.USUAL, d -> d.share(5, 19, 1, 3), -5);
        // It has it at this very place: that is fine.
        Bounds.tells(Scenes.USUAL, d -> d.share(5, 0, 1, 0), 1);
        Bounds.meet(Scenes.USUAL.then(d -> d.share(5, 0, 1, 0)), Scenes.USUAL.then(d -> d.setQuota(3, 50)));
        // HOLEs at several places are no BLOCK.
        Bounds.tells(Scenes.USUAL, d -> d.share(5, 0, 1, 3), 0);
        Bounds.tells(Scenes.USUAL, d -> d.share(5, 1, 1, 19), 0);
        // Once it has lost it, it may have it elsewhere.
        Bounds.tells(Scenes.USUAL.then(d -> d.punch(5, 1)), d -> d.share(5, 0, 1, 1), 1);
        // -6 ahead of -8.
        Scene poor = file(40, 0).then(d -> {
            d.cloneFile(0, 2, 1);
            d.punch(2, 0);
            d.setQuota(0, 0);
        });
        Bounds.refuses(poor, d -> d.share(2, 0, 1, 1), -6);
        Bounds.refuses(poor, d -> d.share(2, 0, 1, 0), -8);
    }

    private static void shareSize() {
        Scene scene = EdgesOfBytesTest::whole;
        int[][] rows = {{0, 16}, {1, 32}, {7, 128}, {18, 304}, {19, 320}};
        for (int[] row : rows) {
            for (int size = row[1] - 1; size <= Math.min(row[1] + 1, 320); size++) {
                int bytes = size;
                Scene sized = scene.then(d -> d.truncate(2, bytes));
                for (int from = 0; from < 20; from += 19) {
                    int other = from;
                    if (size < row[1]) {
                        Bounds.refuses(sized, d -> d.share(2, row[0], 1, other), -5);
                    } else {
                        Bounds.tells(sized, d -> d.share(2, row[0], 1, other), 1);
                    }
                }
            }
        }
        // A HOLE as well is hindered so; the SIZE of the other file does not matter.
        Bounds.refuses(scene.then(d -> d.truncate(1, 0)), d -> d.share(1, 0, 2, 0), -5);
        Bounds.refuses(scene.then(d -> d.truncate(1, 15)), d -> d.share(1, 0, 2, 0), -5);
        Bounds.tells(scene.then(d -> d.truncate(1, 16)), d -> d.share(1, 0, 2, 0), 0);
        Bounds.tells(scene.then(d -> d.truncate(1, 3)), d -> d.share(2, 19, 1, 0), 1);
        Bounds.tells(scene.then(d -> d.truncate(1, 0)), d -> d.share(2, 0, 1, 19), 0);
        // -5 ahead of -8.
        Scene poor = scene.then(d -> {
            d.truncate(2, 31);
            d.setQuota(0, 0);
        });
        Bounds.refuses(poor, d -> d.share(2, 1, 1, 1), -5);
        Bounds.refuses(poor, d -> d.share(2, 0, 1, 1), -8);
    }

    private static void shareQuota() {
        // User 0 USES 21 BLOCKS, and would use 22; for a place with a BLOCK no more than now.
        Scene scene = EdgesOfBytesTest::whole;
        for (int quota : new int[] {0, 20, 21}) {
            Bounds.refuses(scene.then(d -> d.setQuota(0, quota)), d -> d.share(2, 0, 1, 0), -8);
            Bounds.tells(scene.then(d -> d.setQuota(0, quota)), d -> d.share(2, 0, 2, 0), 0);
            Bounds.tells(scene.then(d -> d.setQuota(0, quota)), d -> d.share(1, 0, 2, 0), 0);
        }
        for (int quota : new int[] {22, 23}) {
            Bounds.tells(scene.then(d -> d.setQuota(0, quota)), d -> d.share(2, 0, 1, 0), 1);
        }
        Scene has = scene.then(d -> d.share(2, 0, 1, 0)).then(d -> d.setQuota(0, 0));
        Bounds.tells(has, d -> d.share(2, 0, 1, 1), 1);
        // It is the OWNER of the file that gets the BLOCK.
        Scene owned = scene.then(d -> d.setOwner(2, 1)).then(d -> d.setQuota(0, 0));
        Bounds.refuses(owned.then(d -> d.setQuota(1, 0)), d -> d.share(2, 0, 1, 0), -8);
        Bounds.tells(owned.then(d -> d.setQuota(1, 1)), d -> d.share(2, 0, 1, 0), 1);
        // With all 120 BLOCKS USED it is fine: it needs none.
        Scene full = Scenes.room(0).then(d -> {
            d.truncate(7, 320);
            d.setOwner(7, 1);
        });
        Bounds.tells(full, d -> d.share(7, 19, 1, 0), 1);
        Bounds.tells(full.then(d -> d.share(7, 19, 1, 0)), JournalDisk::used, 120);
        Bounds.tells(full.then(d -> d.share(2, 19, 1, 0)), JournalDisk::used, 119);
    }

    private static void shareReplaces() {
        JournalDisk d = new JournalDisk();
        Given.file(d, 0, 1, 32);
        Given.file(d, 0, 2, 32);
        Check.is(d.used(), 5);
        Check.is(d.share(2, 0, 1, 1), 1);
        Check.is(d.used(), 4);
        Check.is(d.byteAt(2, 0), 17);
        Check.is(d.byteAt(2, 16), 17);
        Check.is(d.sharedOf(1), 1);
        Check.is(d.blocksOf(2), 2);
        Check.is(d.sizeOf(2), 32);
        Check.is(d.share(2, 0, 1, 2), 0);
        Check.is(d.isHole(2, 0), true);
        Check.is(d.sharedOf(1), 0);
        Check.is(d.used(), 4);
        Check.is(d.share(2, 0, 1, 19), 0);
        Check.is(d.changes(), 7);
        // A file of 20 bytes gives zeros behind them, a place of its own keeps the bytes.
        JournalDisk e = new JournalDisk();
        Given.file(e, 0, 1, 20);
        e.makeFile(0, 2);
        e.truncate(2, 16);
        Check.is(e.share(2, 0, 1, 1), 1);
        Check.is(e.byteAt(2, 3), 20);
        Check.is(e.byteAt(2, 4), 0);
    }

    private static void shareItself() {
        Scene usual = Scenes.USUAL;
        Scene change = usual.then(d -> d.setQuota(3, 50));
        for (int place = 0; place < 20; place++) {
            int at = place;
            // File 3 has 50 bytes: the places 0 to 2 end ahead of SIZE.
            if (place <= 2) {
                Bounds.tells(usual, d -> d.share(3, at, 3, at), 1);
                Bounds.meet(usual.then(d -> d.share(3, at, 3, at)), change);
            } else {
                Bounds.refuses(usual, d -> d.share(3, at, 3, at), -5);
            }
        }
        Scene longer = usual.then(d -> d.truncate(3, 320));
        Bounds.tells(longer, d -> d.share(3, 3, 3, 3), 1);
        Bounds.tells(longer, d -> d.share(3, 4, 3, 4), 0);
        Bounds.tells(longer, d -> d.share(3, 19, 3, 19), 0);
        Bounds.meet(longer.then(d -> d.share(3, 19, 3, 19)), longer.then(d -> d.setQuota(3, 50)));
        Scene poor = longer.then(d -> d.setQuota(1, 0));
        Bounds.tells(poor, d -> d.share(3, 3, 3, 3), 1);
        Bounds.tells(usual, d -> d.share(5, 1, 5, 1), 1);
    }

    // ---- promises 15 and 16

    private static void ownerUser() {
        for (int node = 0; node <= 6; node++) {
            int owned = node;
            int before = node == 2 || node == 3 || node == 4 || node == 5 ? 1 : 0;
            Bounds.range(Scenes.USUAL, 0, 3, (d, x) -> d.setOwner(owned, x), x -> before);
            for (int user = 0; user <= 3; user++) {
                int next = user;
                Bounds.tells(Scenes.USUAL.then(d -> d.setOwner(owned, next)), d -> d.ownerOf(owned), user);
            }
        }
        Bounds.meet(Scenes.USUAL.then(d -> d.setOwner(1, 0)), Scenes.USUAL.then(d -> d.setQuota(3, 50)));
    }

    private static void ownerQuota() {
        // File 1 has 3 BLOCKS, the ROOT takes 1, folder 2 takes 2 and link 3 none.
        Scene scene = Scenes.EMPTY.then(d -> {
            Given.file(d, 0, 1, 40);
            d.makeFolder(0, 2);
            for (int k = 0; k < 5; k++) {
                d.makeLink(2, 1 + k, 0, 0, 0);
            }
        });
        int[] blocks = {1, 3, 2, 0};
        for (int node = 0; node <= 3; node++) {
            int owned = node;
            for (int quota = 0; quota <= 4; quota++) {
                int most = quota;
                Scene limited = scene.then(d -> d.setQuota(1, most));
                if (quota < blocks[node]) {
                    Bounds.refuses(limited, d -> d.setOwner(owned, 1), -8);
                } else {
                    Bounds.tells(limited, d -> d.setOwner(owned, 1), 0);
                    Bounds.tells(limited.then(d -> d.setOwner(owned, 1)), d -> d.usedBy(1), blocks[node]);
                    Bounds.tells(limited.then(d -> d.setOwner(owned, 1)), d -> d.usedBy(0), 6 - blocks[node]);
                }
            }
            // The OWNER that it has already would use no more than now.
            Bounds.tells(scene.then(d -> d.setQuota(0, 0)), d -> d.setOwner(owned, 0), 0);
        }
        // Of both together the second one is too much.
        Scene three = scene.then(d -> d.setQuota(1, 4)).then(d -> d.setOwner(1, 1));
        Bounds.tells(three, d -> d.setOwner(0, 1), 0);
        Bounds.refuses(three, d -> d.setOwner(2, 1), -8);
        // SHARED places count for each, and of an ORPHAN as well.
        Scene shared = Scenes.EMPTY.then(d -> {
            Given.file(d, 0, 1, 40);
            d.cloneFile(0, 2, 1);
            d.open(2);
            d.unlink(0, 2);
            d.setOwner(1, 1);
        });
        Bounds.refuses(shared.then(d -> d.setQuota(1, 5)), d -> d.setOwner(2, 1), -8);
        Bounds.tells(shared.then(d -> d.setQuota(1, 6)), d -> d.setOwner(2, 1), 0);
        // With all 120 BLOCKS USED nothing else hinders it.
        Bounds.tells(Scenes.room(0), d -> d.setOwner(1, 3), 0);
    }

    private static void quotaUser() {
        Bounds.range(Scenes.USUAL, 0, 3, (d, x) -> d.setQuota(x, 7), x -> x == 3 ? 50 : 120);
        for (int user = 0; user <= 3; user++) {
            int set = user;
            JournalDisk d = Scenes.USUAL.then(x -> x.setQuota(set, 7)).made();
            for (int u = 0; u <= 3; u++) {
                Check.is(d.quotaOf(u), u == user ? 7 : u == 3 ? 50 : 120);
            }
        }
        Bounds.wrong(Scenes.USUAL, 0, 3, (d, x) -> d.setQuota(x, 121));
    }

    private static void quotaRange() {
        Bounds.range(Scenes.USUAL, 0, 120, (d, x) -> d.setQuota(3, x), x -> 50);
        for (int quota : new int[] {0, 1, 119, 120}) {
            Bounds.tells(Scenes.USUAL.then(d -> d.setQuota(3, quota)), d -> d.quotaOf(3), quota);
            Bounds.tells(Scenes.USUAL.then(d -> d.setQuota(3, quota)), d -> d.setQuota(3, 9), quota);
        }
        Bounds.wrong(Scenes.USUAL, 0, 120, (d, x) -> d.setQuota(0, x));
    }

    private static void quotaBelow() {
        // User 0 USES 5 BLOCKS, user 1 USES 8.
        Bounds.tells(Scenes.USUAL, d -> d.usedBy(0), 5);
        Bounds.tells(Scenes.USUAL, d -> d.usedBy(1), 8);
        for (int quota = 4; quota <= 9; quota++) {
            int most = quota;
            Bounds.tells(Scenes.USUAL, d -> d.setQuota(0, most), 120);
            Bounds.tells(Scenes.USUAL, d -> d.setQuota(1, most), 120);
            Bounds.tells(Scenes.USUAL.then(d -> d.setQuota(1, most)), d -> d.usedBy(1), 8);
        }
        Bounds.tells(Scenes.room(0), d -> d.setQuota(0, 0), 120);
    }
}
