/** A run of calls that is made again on each new object that is asked, as an object is good for 512 calls. */
interface Scene {
    void play(JournalDisk disk);

    /** A call, with its answer. */
    interface Ask {
        Object of(JournalDisk disk);
    }

    /** A call with one argument that is tried with many numbers. */
    interface Numbered {
        Object of(JournalDisk disk, int number);
    }

    default Scene then(Scene more) {
        return disk -> {
            play(disk);
            more.play(disk);
        };
    }

    default JournalDisk made() {
        JournalDisk disk = new JournalDisk();
        play(disk);
        return disk;
    }

    /** What a call answers, or which exception it throws. */
    static Object answer(JournalDisk disk, Ask call) {
        try {
            return call.of(disk);
        } catch (RuntimeException e) {
            return "throws." + e.getClass().getSimpleName();
        }
    }
}
