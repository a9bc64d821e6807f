/** States that tests begin with. */
final class Given {
    private Given() {
    }

    /** A file with so many bytes, all written: 1, 2, 3 and so on. */
    static int file(JournalDisk disk, int folder, int name, int bytes) {
        int node = disk.makeFile(folder, name);
        if (node >= 0) {
            fill(disk, node, bytes);
        }
        return node;
    }

    /** Writes so many bytes into a file, from its start on. */
    static void fill(JournalDisk disk, int node, int bytes) {
        int handle = disk.open(node);
        for (int done = 0; done < bytes; done += 64) {
            disk.write(handle, Math.min(64, bytes - done), (done + 1) % 256);
        }
        disk.close(handle);
    }

    /** The files 1 to 6 in the ROOT, named so, with which 120 BLOCKS are USED: 2 of the ROOT, 18 of file 6. */
    static JournalDisk full() {
        JournalDisk disk = new JournalDisk();
        full(disk);
        return disk;
    }

    static void full(JournalDisk disk) {
        for (int n = 1; n <= 6; n++) {
            file(disk, 0, n, n == 6 ? 288 : 320);
        }
    }

    /** 32 nodes: the ROOT with 12 ENTRIES, the folders 1 and 2 in it with 10 and 9 (named from 10 on), and links. */
    static JournalDisk crowded() {
        JournalDisk disk = new JournalDisk();
        disk.makeFolder(0, 1);
        disk.makeFolder(0, 2);
        for (int k = 0; k < 29; k++) {
            disk.makeLink(k % 3, 10 + k / 3, 0, 0, 0);
        }
        return disk;
    }

    /** A disk with a folder 1, named 1, that has 12 links, named 11 to 22, numbered from 2. */
    static JournalDisk twelve() {
        JournalDisk disk = new JournalDisk();
        disk.makeFolder(0, 1);
        for (int k = 0; k < 12; k++) {
            disk.makeLink(1, 11 + k, 0, 0, 0);
        }
        return disk;
    }
}
