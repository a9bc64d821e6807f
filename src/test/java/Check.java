import java.util.function.Consumer;

/** Counts the tests of one program, and tells each answer that is not due by its line. */
final class Check {
    interface Test {
        void run();
    }

    interface Call {
        Object run();
    }

    private static int failedTests = 0;
    private static int wrong = 0;

    private Check() {
    }

    static void test(String name, Test test) {
        wrong = 0;
        try {
            test.run();
        } catch (RuntimeException e) {
            wrong++;
            System.out.println("  " + e + " at " + line(e.getStackTrace()));
        }
        System.out.println((wrong == 0 ? "ok " : "FAILED ") + name);
        if (wrong != 0) {
            failedTests++;
        }
    }

    static void end() {
        if (failedTests != 0) {
            System.exit(1);
        }
    }

    static void is(long got, long want) {
        if (got != want) {
            tell("answered " + got + ", due is " + want);
        }
    }

    static void is(boolean got, boolean want) {
        if (got != want) {
            tell("answered " + got + ", due is " + want);
        }
    }

    static void isReal(double got, double want) {
        if (got != want) {
            tell("answered " + got + ", due is " + want);
        }
    }

    /** Compares answers of any kind by their texts. */
    static void same(String what, Object got, Object want) {
        if (!String.valueOf(got).equals(String.valueOf(want))) {
            tell(what + "answered " + got + ", due is " + want);
        }
    }

    /** Compares texts of many rows, and tells the first one that is other. */
    static void sameRows(String got, String want) {
        if (got.equals(want)) {
            return;
        }
        String[] gotRows = got.split("\n");
        String[] wantRows = want.split("\n");
        for (int k = 0; k < Math.min(gotRows.length, wantRows.length); k++) {
            if (!gotRows[k].equals(wantRows[k])) {
                tell("to be seen is: " + gotRows[k] + "; due is: " + wantRows[k]);
                return;
            }
        }
        tell("to be seen are " + gotRows.length + " rows, due are " + wantRows.length);
    }

    static void state(Call call) {
        thrown(call, IllegalStateException.class);
    }

    static void index(Call call) {
        thrown(call, IndexOutOfBoundsException.class);
    }

    static void argument(Call call) {
        thrown(call, IllegalArgumentException.class);
    }

    /** That a call throws IllegalStateException while it is DOWN. */
    static void down(Consumer<JournalDisk> call) {
        JournalDisk disk = new JournalDisk();
        disk.makeFile(0, 1);
        disk.sync();
        disk.cut();
        state(() -> {
            call.accept(disk);
            return 0;
        });
        is(disk.isDown(), true);
    }

    /** That a call changes nothing that digest() tells. */
    static void keeps(JournalDisk disk, Test call) {
        long before = disk.digest();
        call.run();
        if (disk.digest() != before) {
            tell("something was changed");
        }
    }

    private static void thrown(Call call, Class<?> want) {
        String got = "nothing";
        try {
            call.run();
        } catch (RuntimeException e) {
            got = e.getClass().getName();
        }
        if (!got.equals(want.getName())) {
            tell("threw " + got + ", due is " + want.getName());
        }
    }

    private static void tell(String text) {
        wrong++;
        System.out.println("  " + line(new Throwable().getStackTrace()) + ": " + text);
    }

    private static String line(StackTraceElement[] trace) {
        for (StackTraceElement e : trace) {
            String from = e.getClassName();
            if (!from.startsWith("Check") && !from.startsWith("JournalDisk") && !from.startsWith("java.")
                    && !from.startsWith("Given") && !from.startsWith("Bounds") && !from.startsWith("Picture")
                    && !from.equals("Scene")) {
                return e.getFileName() + ":" + e.getLineNumber();
            }
        }
        return "?";
    }
}
