import java.lang.reflect.InvocationTargetException;
import java.lang.reflect.Method;
import java.util.ArrayList;
import java.util.Arrays;
import java.util.HashMap;
import java.util.List;
import java.util.Map;
import java.util.Random;
import java.util.TreeMap;

/**
 * Random runs of 512 calls, each call put to JournalDisk and to the Model. With the arguments
 * 'first seed' and 'how many' it makes other runs; with a third one it tells which answers came how often.
 */
public final class RandomRunsTest {
    // Each method with the kinds of its arguments: f a file, d a folder, n a node, e the folder and the name
    // of an entry, m a name, h a handle, b from and length of bytes, and numbers from-to.
    private static final String[] CHANGES = {
        "makeFile d m", "makeFolder d m", "makeLink d m -1-3 t", "cloneFile d m f", "addName d m n", "unlink e",
        "removeFolder e", "rename e d m", "rename e e", "exchange e e", "write h 1-64 0-255", "write h 50-64 0-255",
        "truncate f 0-320", "truncate f 300-320", "punch f 0-19", "share f 0-19 f 0-19", "setOwner n 0-3",
        "setQuota 0-3 0-120", "open f", "close h", "seek h 0-320", "seek h 0-256", "lock h b x", "unlock h b",
        "sync", "flush", "cut", "fail 0-3 1-40 0-40", "fail 1-1 1-40 30-34", "mount"
    };
    private static final String[] QUESTIONS = {
        "read h 1-320", "whoHinders h b x", "lockRows h", "lockAt f 0-319", "nodeOf h", "positionOf h", "handles",
        "writeBack 0-99 0-50", "isDown", "mounts", "waiting", "changes", "nodes", "typeOf n", "linksOf n",
        "ownerOf n", "sizeOf n", "blocksOf n", "sharedOf f", "byteAt f 0-319", "isHole f 0-19", "nextData f 0-320",
        "nextHole f 0-320", "sameBytes f f", "lookup d m", "follow e", "nameAt d 0-12", "parentOf d", "depthOf d",
        "isOrphan f", "blocksUnder n", "wouldFree n", "used", "usedBy 0-3", "quotaOf 0-3", "greatestFile",
        "meanSize", "flaws", "digest"
    };

    private static final Map<String, Integer> seen = new TreeMap<>();
    private static final Map<String, Method[]> methods = new HashMap<>();

    public static void main(String[] args) {
        int first = args.length > 0 ? Integer.parseInt(args[0]) : 1;
        int many = args.length > 1 ? Integer.parseInt(args[1]) : 150;
        for (Method m : JournalDisk.class.getMethods()) {
            if (m.getDeclaringClass() == JournalDisk.class) {
                methods.put(m.getName(), new Method[] {m, twin(m)});
            }
        }
        Check.test("promises 1 to 65: random runs beside the model", () -> {
            for (int seed = first; seed < first + many; seed++) {
                new RandomRunsTest(seed).run();
            }
        });
        if (args.length > 2) {
            seen.forEach((what, times) -> System.out.println(times + "\t" + what));
        }
        Check.end();
    }

    private static Method twin(Method m) {
        try {
            return Model.class.getMethod(m.getName(), m.getParameterTypes());
        } catch (NoSuchMethodException e) {
            throw new IllegalStateException(e);
        }
    }

    private final int seed;
    private final Random random;
    private final JournalDisk disk = new JournalDisk();
    private final Model model = new Model();
    private final List<String> calls = new ArrayList<>();
    private final List<String> bag = new ArrayList<>();
    private final int names;
    private final double wild;
    private final boolean isTight;
    private final int start;

    private RandomRunsTest(int seed) {
        this.seed = seed;
        random = new Random(seed);
        names = new int[] {6, 14, 40, 99}[random.nextInt(4)];
        wild = new double[] {0, 0.01, 0.05, 0.2}[random.nextInt(4)];
        isTight = random.nextBoolean();
        start = random.nextInt(5);
        boolean isSteady = random.nextInt(3) == 0;
        for (String call : CHANGES) {
            int weight = random.nextInt(8) * random.nextInt(8);
            if (call.matches("(cut|fail|flush|sync).*")) {
                weight = isSteady ? 0 : weight / 4;
            }
            if (start >= 3 && call.matches("(setQuota|truncate f 0|punch|unlink|cut).*")) {
                weight /= 20;
            }
            bag.addAll(java.util.Collections.nCopies(weight, call));
        }
        bag.addAll(Arrays.asList("makeFile d m", "makeFile d m", "makeFolder d m", "open f", "open f", "mount"));
        bag.addAll(Arrays.asList(QUESTIONS));
    }

    private void run() {
        begin(start);
        // Each sixteenth call is followed by a digest(): with that none is the 513th.
        while (calls.size() < 511) {
            int k = calls.size();
            String call = model.isDown() && random.nextInt(3) > 0 ? "mount" : bag.get(random.nextInt(bag.size()));
            String[] parts = call.split(" ");
            Object[] arguments = arguments(parts);
            if (!isSame(parts[0], arguments) || (k % 16 == 15 && !isSame("digest", new Object[0]))) {
                return;
            }
        }
    }

    /** Nothing, or three files, or folders with links, or (3 and 4) a disk that is nearly full. */
    private void begin(int kind) {
        int count = kind >= 3 ? 7 : kind == 2 ? 6 : 3;
        for (int n = 1; n <= count && kind > 0; n++) {
            if (kind == 2) {
                isSame("makeFolder", new Object[] {random.nextInt(n), n});
                continue;
            }
            isSame("makeFile", new Object[] {0, n});
            isSame("setOwner", new Object[] {n, n % 4});
            isSame("open", new Object[] {n});
            for (int k = 0; k < 5 && kind >= 3; k++) {
                isSame("write", new Object[] {0, n == 7 ? 1 + random.nextInt(60) : 64, 11 * n + k});
            }
            if (n % 3 > 0) {
                isSame("close", new Object[] {0});
            }
        }
        for (int k = 0; k < 12 && kind == 2; k++) {
            isSame("makeLink", arguments("makeLink d m -1-3 t".split(" ")));
        }
    }

    private boolean isSame(String name, Object[] arguments) {
        Method[] both = methods.get(name);
        Object got = answer(both[0], disk, arguments);
        Object want = answer(both[1], model, arguments);
        calls.add(name + Arrays.toString(arguments) + " " + got);
        String kind = name + " " + (want instanceof Integer && (Integer) want >= 0 ? "fine" : want);
        if (!(want instanceof Long || want instanceof Double)) {
            seen.merge(kind, 1, Integer::sum);
        }
        if (!String.valueOf(got).equals(String.valueOf(want))) {
            int from = Math.max(0, calls.size() - 30);
            calls.subList(from, calls.size()).forEach(c -> System.out.println("  " + c));
            throw new IllegalStateException("seed " + seed + ", call " + calls.size() + ": due is " + want);
        }
        return true;
    }

    private static Object answer(Method method, Object on, Object[] arguments) {
        try {
            return method.invoke(on, arguments);
        } catch (InvocationTargetException e) {
            return "throws." + e.getCause().getClass().getSimpleName();
        } catch (IllegalAccessException e) {
            throw new IllegalStateException(e);
        }
    }

    // ---- arguments

    private Object[] arguments(String[] parts) {
        List<Object> all = new ArrayList<>();
        for (int k = 1; k < parts.length; k++) {
            add(all, parts[k]);
        }
        for (int k = 0; k < all.size(); k++) {
            if (random.nextDouble() < wild && all.get(k) instanceof Integer) {
                all.set(k, wildNumber());
            }
        }
        return all.toArray();
    }

    private int wildNumber() {
        int[] some = {
            -1, 0, 1, 3, 4, 5, 6, 19, 20, 31, 32, 33, 50, 51, 64, 65, 99, 100, 120, 121, 255, 256, 319, 320, 321,
            Integer.MAX_VALUE, Integer.MIN_VALUE
        };
        return random.nextInt(3) == 0 ? random.nextInt(340) - 10 : some[random.nextInt(some.length)];
    }

    private void add(List<Object> all, String kind) {
        switch (kind) {
            case "f" -> all.add(node(1));
            case "d" -> all.add(node(2));
            case "n" -> all.add(node(0));
            case "m" -> all.add(1 + random.nextInt(names));
            case "e" -> addEntry(all);
            case "h" -> all.add(handle());
            case "x" -> all.add(random.nextBoolean());
            case "b" -> {
                int from = random.nextInt(320);
                all.add(from);
                all.add(1 + random.nextInt(random.nextBoolean() ? 320 - from : Math.min(20, 320 - from)));
            }
            case "t" -> {
                int first = random.nextInt(4) == 0 ? 0 : name(node(2));
                all.add(first);
                all.add(first == 0 || random.nextInt(3) == 0 ? 0 : name(node(2)));
            }
            default -> {
                int dash = kind.indexOf('-', 1);
                int least = Integer.parseInt(kind.substring(0, dash));
                int most = Integer.parseInt(kind.substring(dash + 1));
                boolean isQuota = kind.equals("0-120") && isTight;
                all.add(least + random.nextInt((isQuota ? 12 : most) - least + 1));
            }
        }
    }

    private int node(int type) {
        List<Integer> some = new ArrayList<>();
        for (int n = 0; n < 32 && !model.isDown(); n++) {
            int sort = model.typeOf(n);
            if (sort != 0 && (type == 0 || sort == type || random.nextInt(30) == 0)) {
                some.add(n);
            }
        }
        return some.isEmpty() ? random.nextInt(32) : some.get(random.nextInt(some.size()));
    }

    private int name(int folder) {
        if (model.isDown() || random.nextInt(10) == 0 || model.typeOf(folder) != 2 || model.sizeOf(folder) == 0) {
            return 1 + random.nextInt(names);
        }
        return model.nameAt(folder, random.nextInt(model.sizeOf(folder)));
    }

    private void addEntry(List<Object> all) {
        int folder = node(2);
        all.add(folder);
        all.add(name(folder));
    }

    private int handle() {
        List<Integer> open = new ArrayList<>();
        for (int h = 0; h < 6 && !model.isDown(); h++) {
            try {
                model.nodeOf(h);
                open.add(h);
            } catch (IndexOutOfBoundsException e) {
                continue;
            }
        }
        return open.isEmpty() || random.nextInt(40) == 0 ? random.nextInt(6) : open.get(random.nextInt(open.size()));
    }
}
