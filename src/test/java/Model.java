import java.util.ArrayDeque;
import java.util.ArrayList;
import java.util.Collections;
import java.util.Deque;
import java.util.HashMap;
import java.util.HashSet;
import java.util.IdentityHashMap;
import java.util.List;
import java.util.Map;
import java.util.Set;
import java.util.TreeMap;

/**
 * The same document once more, with objects that know each other, and nothing kept that can be asked:
 * parents, links, holders and what is used are looked for each time. Slow, and free to use the library.
 */
final class Model {
    static final class Block {
        final int[] bytes = new int[16];
    }

    static final class Thing {
        int type;
        int owner;
        int size;
        int up;
        int first;
        int second;
        final TreeMap<Integer, Thing> entries = new TreeMap<>();
        final TreeMap<Integer, Block> blocks = new TreeMap<>();
    }

    static final class World {
        final TreeMap<Integer, Thing> things = new TreeMap<>();
        final int[] quotas = {120, 120, 120, 120};
        int changes;

        World copy() {
            World w = new World();
            Map<Thing, Thing> twins = new IdentityHashMap<>();
            Map<Block, Block> blockTwins = new IdentityHashMap<>();
            for (Map.Entry<Integer, Thing> e : things.entrySet()) {
                Thing twin = new Thing();
                twins.put(e.getValue(), twin);
                w.things.put(e.getKey(), twin);
            }
            for (Thing t : things.values()) {
                Thing twin = twins.get(t);
                twin.type = t.type;
                twin.owner = t.owner;
                twin.size = t.size;
                twin.up = t.up;
                twin.first = t.first;
                twin.second = t.second;
                t.entries.forEach((name, kid) -> twin.entries.put(name, twins.get(kid)));
                t.blocks.forEach((place, block) -> twin.blocks.put(place, blockTwins.computeIfAbsent(block, b -> {
                    Block c = new Block();
                    System.arraycopy(b.bytes, 0, c.bytes, 0, 16);
                    return c;
                })));
            }
            System.arraycopy(quotas, 0, w.quotas, 0, 4);
            w.changes = changes;
            return w;
        }
    }

    static final class Grip {
        int node;
        int position;
        final TreeMap<Integer, Boolean> locks = new TreeMap<>();
    }

    private World world = new World();
    private World committed;
    private final TreeMap<Integer, Grip> grips = new TreeMap<>();
    private boolean down;
    private int mounted;
    private int waits;
    private int[] failure;

    Model() {
        Thing root = new Thing();
        root.type = 2;
        world.things.put(0, root);
        committed = world.copy();
    }

    // ---- small questions

    private void up() {
        if (down) {
            throw new IllegalStateException();
        }
    }

    private Thing node(int n) {
        Thing t = world.things.get(n);
        if (t == null) {
            throw new IndexOutOfBoundsException();
        }
        return t;
    }

    private Grip grip(int h) {
        Grip g = grips.get(h);
        if (g == null) {
            throw new IndexOutOfBoundsException();
        }
        return g;
    }

    private static void arg(boolean ok) {
        if (!ok) {
            throw new IllegalArgumentException();
        }
    }

    private static void name(int name) {
        arg(name >= 1 && name <= 99);
    }

    private int number(Thing t) {
        for (Map.Entry<Integer, Thing> e : world.things.entrySet()) {
            if (e.getValue() == t) {
                return e.getKey();
            }
        }
        return -1;
    }

    private static int links(World w, Thing t) {
        int links = 0;
        for (Thing f : w.things.values()) {
            for (Thing kid : f.entries.values()) {
                if (kid == t) {
                    links++;
                }
            }
        }
        return links;
    }

    private Thing parent(Thing folder) {
        for (Thing f : world.things.values()) {
            if (f.entries.containsValue(folder)) {
                return f;
            }
        }
        return folder;
    }

    private List<Thing> above(Thing folder) {
        List<Thing> all = new ArrayList<>();
        Thing f = folder;
        while (parent(f) != f) {
            f = parent(f);
            all.add(f);
        }
        return all;
    }

    private static int takes(int entries) {
        return (entries + 3) / 4;
    }

    private static int taken(Thing t) {
        return t.type == 1 ? t.blocks.size() : t.type == 2 ? takes(t.entries.size()) : 0;
    }

    private static Set<Block> blocks(Iterable<Thing> things) {
        Set<Block> all = Collections.newSetFromMap(new IdentityHashMap<>());
        for (Thing t : things) {
            all.addAll(t.blocks.values());
        }
        return all;
    }

    private static int used(World w) {
        int used = blocks(w.things.values()).size();
        for (Thing t : w.things.values()) {
            used += t.type == 2 ? taken(t) : 0;
        }
        return used;
    }

    private static int usedBy(World w, int user) {
        int used = 0;
        for (Thing t : w.things.values()) {
            used += t.owner == user ? taken(t) : 0;
        }
        return used;
    }

    private boolean shared(Block b) {
        int holders = 0;
        for (Thing t : world.things.values()) {
            holders += t.blocks.containsValue(b) ? 1 : 0;
        }
        return holders > 1;
    }

    private boolean held(int n) {
        for (Grip g : grips.values()) {
            if (g.node == n) {
                return true;
            }
        }
        return false;
    }

    // ---- a change: done, then taken back if it has no room

    private int change(int answer, Runnable work) {
        World before = world.copy();
        work.run();
        for (Integer n : new ArrayList<>(world.things.keySet())) {
            Thing t = world.things.get(n);
            if (n != 0 && links(world, t) == 0 && !(t.type == 1 && held(n))) {
                world.things.remove(n);
            }
        }
        int hindrance = used(world) > 120 ? -7 : 0;
        for (int user = 0; user < 4 && hindrance == 0; user++) {
            int now = usedBy(world, user);
            if (now > usedBy(before, user) && now > world.quotas[user]) {
                hindrance = -8;
            }
        }
        if (hindrance != 0) {
            world = before;
            return hindrance;
        }
        world.changes++;
        waits++;
        if (waits == 8 && !commit()) {
            return -9;
        }
        return answer;
    }

    private boolean commit() {
        if (waits == 0) {
            return true;
        }
        boolean falls = failure != null && failure[0] <= 1;
        if (!falls || (failure[0] == 1 && failure[2] >= 32)) {
            committed = world.copy();
        }
        waits = 0;
        if (falls) {
            failure = null;
            fall();
        }
        return !falls;
    }

    private void fall() {
        down = true;
        grips.clear();
        waits = 0;
    }

    private int free() {
        for (int n = 0; n < 32; n++) {
            if (!world.things.containsKey(n)) {
                return n;
            }
        }
        return -1;
    }

    private int make(int folder, int name, Thing made) {
        Thing f = node(folder);
        if (f.type != 2) {
            return -3;
        }
        if (f.entries.containsKey(name)) {
            return -2;
        }
        int number = free();
        if (f.entries.size() == 12 || number < 0) {
            return -5;
        }
        made.owner = f.owner;
        return change(number, () -> {
            world.things.put(number, made);
            f.entries.put(name, made);
        });
    }

    // ---- changes

    public int makeFile(int folder, int name) {
        up();
        node(folder);
        name(name);
        Thing t = new Thing();
        t.type = 1;
        return make(folder, name, t);
    }

    public int makeFolder(int folder, int name) {
        up();
        node(folder);
        name(name);
        Thing t = new Thing();
        t.type = 2;
        return make(folder, name, t);
    }

    public int makeLink(int folder, int name, int up, int first, int second) {
        up();
        node(folder);
        name(name);
        arg(up >= -1 && up <= 3 && first >= 0 && first <= 99 && second >= 0 && second <= 99);
        arg(first != 0 || second == 0);
        Thing t = new Thing();
        t.type = 3;
        t.up = up;
        t.first = first;
        t.second = second;
        return make(folder, name, t);
    }

    public int cloneFile(int folder, int name, int node) {
        up();
        Thing f = node(folder);
        Thing from = node(node);
        name(name);
        if (f.type != 2 || from.type != 1) {
            return -3;
        }
        Thing t = new Thing();
        t.type = 1;
        t.size = from.size;
        t.blocks.putAll(from.blocks);
        return make(folder, name, t);
    }

    public int addName(int folder, int name, int node) {
        up();
        Thing f = node(folder);
        Thing t = node(node);
        name(name);
        if (f.type != 2 || t.type == 2) {
            return -3;
        }
        int links = links(world, t);
        if (links == 0) {
            return -1;
        }
        if (f.entries.containsKey(name)) {
            return -2;
        }
        if (f.entries.size() == 12 || links == 6) {
            return -5;
        }
        return change(links + 1, () -> f.entries.put(name, t));
    }

    public int unlink(int folder, int name) {
        up();
        Thing f = node(folder);
        name(name);
        if (f.type != 2) {
            return -3;
        }
        Thing t = f.entries.get(name);
        if (t == null) {
            return -1;
        }
        if (t.type == 2) {
            return -3;
        }
        return change(links(world, t) - 1, () -> f.entries.remove(name));
    }

    public int removeFolder(int folder, int name) {
        up();
        Thing f = node(folder);
        name(name);
        if (f.type != 2) {
            return -3;
        }
        Thing t = f.entries.get(name);
        if (t == null) {
            return -1;
        }
        if (t.type != 2) {
            return -3;
        }
        if (!t.entries.isEmpty()) {
            return -4;
        }
        return change(number(t), () -> f.entries.remove(name));
    }

    public int rename(int folder, int name, int toFolder, int toName) {
        up();
        Thing f = node(folder);
        Thing to = node(toFolder);
        name(name);
        name(toName);
        if (f.type != 2 || to.type != 2) {
            return -3;
        }
        Thing moved = f.entries.get(name);
        Thing gone = to.entries.get(toName);
        if (moved == null) {
            return -1;
        }
        int number = number(moved);
        if (moved == gone) {
            return change(number, () -> { });
        }
        if (to == moved || above(to).contains(moved)) {
            return -6;
        }
        if (gone != null && (gone.type == 2) != (moved.type == 2)) {
            return -3;
        }
        if (gone != null && gone.type == 2 && !gone.entries.isEmpty()) {
            return -4;
        }
        if (to != f && gone == null && to.entries.size() == 12) {
            return -5;
        }
        return change(number, () -> {
            f.entries.remove(name);
            to.entries.put(toName, moved);
        });
    }

    public int exchange(int folder, int name, int other, int otherName) {
        up();
        Thing f = node(folder);
        Thing o = node(other);
        name(name);
        name(otherName);
        if (f.type != 2 || o.type != 2) {
            return -3;
        }
        Thing one = f.entries.get(name);
        Thing two = o.entries.get(otherName);
        if (one == null || two == null) {
            return -1;
        }
        if (o == one || above(o).contains(one) || f == two || above(f).contains(two)) {
            return -6;
        }
        return change(number(two), () -> {
            f.entries.put(name, two);
            o.entries.put(otherName, one);
        });
    }

    private void poke(Thing file, int at, int value) {
        Block b = file.blocks.get(at / 16);
        if (b == null || shared(b)) {
            Block fresh = new Block();
            if (b != null) {
                System.arraycopy(b.bytes, 0, fresh.bytes, 0, 16);
            }
            file.blocks.put(at / 16, fresh);
            b = fresh;
        }
        b.bytes[at % 16] = value;
    }

    private static int peek(Thing t, int at) {
        Block b = t.blocks.get(at / 16);
        return b == null ? 0 : b.bytes[at % 16];
    }

    public int write(int handle, int length, int value) {
        up();
        Grip g = grip(handle);
        arg(length >= 1 && length <= 64 && value >= 0 && value <= 255);
        if (g.position + length > 320) {
            return -5;
        }
        Thing file = node(g.node);
        int size = Math.max(file.size, g.position + length);
        int answer = change(size, () -> {
            for (int k = 0; k < length; k++) {
                poke(file, g.position + k, (value + k) & 255);
            }
            file.size = size;
        });
        if (answer > 0) {
            g.position += length;
        }
        return answer;
    }

    public int truncate(int node, int size) {
        up();
        Thing file = node(node);
        arg(size >= 0 && size <= 320);
        if (file.type != 1) {
            return -3;
        }
        int before = file.size;
        return change(before, () -> {
            file.size = size;
            if (size < before) {
                file.blocks.keySet().removeIf(place -> place * 16 >= size);
                if (size % 16 != 0 && file.blocks.containsKey(size / 16)) {
                    for (int at = size; at % 16 != 0; at++) {
                        poke(file, at, 0);
                    }
                }
            }
        });
    }

    public int punch(int node, int place) {
        up();
        Thing file = node(node);
        arg(place >= 0 && place <= 19);
        if (file.type != 1) {
            return -3;
        }
        return change(file.blocks.containsKey(place) ? 1 : 0, () -> file.blocks.remove(place));
    }

    public int share(int node, int place, int from, int fromPlace) {
        up();
        Thing file = node(node);
        Thing other = node(from);
        arg(place >= 0 && place <= 19 && fromPlace >= 0 && fromPlace <= 19);
        if (file.type != 1 || other.type != 1) {
            return -3;
        }
        Block b = other.blocks.get(fromPlace);
        if (file == other && place != fromPlace) {
            return -6;
        }
        for (Map.Entry<Integer, Block> e : file.blocks.entrySet()) {
            if (e.getValue() == b && e.getKey() != place) {
                return -6;
            }
        }
        if (16 * place + 15 >= file.size) {
            return -5;
        }
        return change(b == null ? 0 : 1, () -> {
            if (b == null) {
                file.blocks.remove(place);
            } else {
                file.blocks.put(place, b);
            }
        });
    }

    public int setOwner(int node, int user) {
        up();
        Thing t = node(node);
        arg(user >= 0 && user <= 3);
        return change(t.owner, () -> t.owner = user);
    }

    public int setQuota(int user, int quota) {
        up();
        arg(user >= 0 && user <= 3 && quota >= 0 && quota <= 120);
        return change(world.quotas[user], () -> world.quotas[user] = quota);
    }

    // ---- handles, locks

    public int open(int node) {
        up();
        if (node(node).type != 1) {
            return -3;
        }
        for (int h = 0; h < 6; h++) {
            if (!grips.containsKey(h)) {
                Grip g = new Grip();
                g.node = node;
                grips.put(h, g);
                return h;
            }
        }
        return -5;
    }

    public int close(int handle) {
        up();
        int n = grip(handle).node;
        grips.remove(handle);
        if (links(world, node(n)) == 0 && !held(n)) {
            return change(n, () -> { });
        }
        return n;
    }

    public int seek(int handle, int position) {
        up();
        Grip g = grip(handle);
        arg(position >= 0 && position <= 320);
        int before = g.position;
        g.position = position;
        return before;
    }

    public int read(int handle, int length) {
        up();
        Grip g = grip(handle);
        arg(length >= 1 && length <= 320);
        long sum = 0;
        for (int k = 0; k < length && g.position < node(g.node).size; k++) {
            sum = (31 * sum + peek(node(g.node), g.position) + 1) % 1000003;
            g.position++;
        }
        return (int) sum;
    }

    private static void range(int from, int length) {
        arg(from >= 0 && from <= 319);
        arg(length >= 1 && length <= 320 - from);
    }

    public int whoHinders(int handle, int from, int length, boolean isExclusive) {
        up();
        Grip g = grip(handle);
        range(from, length);
        for (Map.Entry<Integer, Grip> e : grips.entrySet()) {
            if (e.getKey() != handle && e.getValue().node == g.node) {
                for (boolean exclusive : e.getValue().locks.subMap(from, from + length).values()) {
                    if (exclusive || isExclusive) {
                        return e.getKey();
                    }
                }
            }
        }
        return -1;
    }

    public boolean lock(int handle, int from, int length, boolean isExclusive) {
        if (whoHinders(handle, from, length, isExclusive) >= 0) {
            return false;
        }
        for (int at = from; at < from + length; at++) {
            grip(handle).locks.put(at, isExclusive);
        }
        return true;
    }

    public int unlock(int handle, int from, int length) {
        up();
        Grip g = grip(handle);
        range(from, length);
        int had = g.locks.subMap(from, from + length).size();
        g.locks.subMap(from, from + length).clear();
        return had;
    }

    public int lockRows(int handle) {
        up();
        int rows = 0;
        TreeMap<Integer, Boolean> locks = grip(handle).locks;
        for (Map.Entry<Integer, Boolean> e : locks.entrySet()) {
            if (!e.getValue().equals(locks.get(e.getKey() - 1))) {
                rows++;
            }
        }
        return rows;
    }

    public int lockAt(int node, int place) {
        up();
        node(node);
        arg(place >= 0 && place <= 319);
        int most = 0;
        for (Grip g : grips.values()) {
            if (g.node == node && g.locks.containsKey(place)) {
                most = Math.max(most, g.locks.get(place) ? 2 : 1);
            }
        }
        return most;
    }

    public int nodeOf(int handle) {
        up();
        return grip(handle).node;
    }

    public int positionOf(int handle) {
        up();
        return grip(handle).position;
    }

    public int handles() {
        up();
        return grips.size();
    }

    // ---- commits, power

    public boolean sync() {
        up();
        return commit();
    }

    public boolean flush() {
        up();
        if (!commit()) {
            return false;
        }
        if (failure != null && failure[0] == 2) {
            failure = null;
            fall();
        }
        return !down;
    }

    public void writeBack(int seed, int many) {
        up();
        arg(many >= 0 && many <= 50);
    }

    public void cut() {
        up();
        fall();
    }

    public void fail(int when, int writes, int bytes) {
        arg(when >= 0 && when <= 3 && writes >= 1 && writes <= 40 && bytes >= 0 && bytes <= 40);
        failure = new int[] {when, writes, bytes};
    }

    public int mount() {
        if (!down) {
            throw new IllegalStateException();
        }
        if (failure != null && failure[0] == 3) {
            failure = null;
            return -9;
        }
        int before = committed.things.size();
        World w = committed;
        w.things.values().removeIf(t -> t.type == 1 && links(w, t) == 0);
        world = committed.copy();
        down = false;
        mounted++;
        return before - world.things.size();
    }

    public boolean isDown() {
        return down;
    }

    public int mounts() {
        return mounted;
    }

    public int waiting() {
        up();
        return waits;
    }

    public int changes() {
        up();
        return world.changes;
    }

    // ---- nodes, asked

    public int nodes() {
        up();
        return world.things.size();
    }

    public int typeOf(int node) {
        up();
        Thing t = world.things.get(node);
        return t == null ? 0 : t.type;
    }

    public int linksOf(int node) {
        up();
        return links(world, node(node));
    }

    public int ownerOf(int node) {
        up();
        return node(node).owner;
    }

    public int sizeOf(int node) {
        up();
        Thing t = node(node);
        if (t.type == 3) {
            return t.first == 0 ? 0 : t.second == 0 ? 1 : 2;
        }
        return t.type == 1 ? t.size : t.entries.size();
    }

    public int blocksOf(int node) {
        up();
        return taken(node(node));
    }

    public int sharedOf(int node) {
        up();
        int count = 0;
        for (Block b : node(node).blocks.values()) {
            count += shared(b) ? 1 : 0;
        }
        return count;
    }

    public int byteAt(int node, int place) {
        up();
        Thing t = node(node);
        arg(place >= 0 && place <= 319);
        return peek(t, place);
    }

    public boolean isHole(int node, int place) {
        up();
        Thing t = node(node);
        arg(place >= 0 && place <= 19);
        return t.type == 1 && !t.blocks.containsKey(place);
    }

    public int nextData(int node, int from) {
        up();
        Thing t = node(node);
        arg(from >= 0 && from <= 320);
        for (int at = from; at < t.size; at++) {
            if (t.blocks.containsKey(at / 16)) {
                return at;
            }
        }
        return -1;
    }

    public int nextHole(int node, int from) {
        up();
        Thing t = node(node);
        arg(from >= 0 && from <= 320);
        if (t.type != 1 || from >= t.size) {
            return -1;
        }
        int at = from;
        while (at < t.size && t.blocks.containsKey(at / 16)) {
            at++;
        }
        return at;
    }

    public boolean sameBytes(int one, int other) {
        up();
        Thing a = node(one);
        Thing b = node(other);
        boolean same = a.type == 1 && b.type == 1 && a.size == b.size;
        for (int at = 0; at < 320; at++) {
            same = same && peek(a, at) == peek(b, at);
        }
        return same;
    }

    public int lookup(int folder, int name) {
        up();
        Thing f = node(folder);
        name(name);
        if (f.type != 2) {
            return -3;
        }
        return f.entries.containsKey(name) ? number(f.entries.get(name)) : -1;
    }

    private static final class Astray extends RuntimeException {
        private static final long serialVersionUID = 1L;
        final int why;

        Astray(int why) {
            this.why = why;
        }
    }

    private Thing seek(Thing folder, int name, int[] met) {
        if (folder.type != 2) {
            throw new Astray(-3);
        }
        Thing t = folder.entries.get(name);
        if (t == null) {
            throw new Astray(-1);
        }
        if (t.type != 3) {
            return t;
        }
        met[0]++;
        if (met[0] == 9) {
            throw new Astray(-6);
        }
        Thing from = t.up < 0 ? world.things.get(0) : folder;
        for (int k = 0; k < t.up; k++) {
            from = parent(from);
        }
        if (t.first == 0) {
            return from;
        }
        Thing first = seek(from, t.first, met);
        return t.second == 0 ? first : seek(first, t.second, met);
    }

    public int follow(int folder, int name) {
        up();
        Thing f = node(folder);
        name(name);
        try {
            return number(seek(f, name, new int[1]));
        } catch (Astray e) {
            return e.why;
        }
    }

    public int nameAt(int folder, int k) {
        up();
        List<Integer> names = new ArrayList<>(node(folder).entries.keySet());
        return k < 0 || k >= names.size() ? -1 : names.get(k);
    }

    public int parentOf(int folder) {
        up();
        Thing t = node(folder);
        return t.type == 2 ? number(parent(t)) : -1;
    }

    public int depthOf(int folder) {
        up();
        Thing t = node(folder);
        return t.type == 2 ? above(t).size() : -1;
    }

    public boolean isOrphan(int node) {
        up();
        return node(node).type == 1 && linksOf(node) == 0;
    }

    private static Set<Thing> below(Thing top) {
        Set<Thing> all = new HashSet<>();
        Deque<Thing> open = new ArrayDeque<>();
        open.add(top);
        while (!open.isEmpty()) {
            Thing t = open.pop();
            if (all.add(t)) {
                open.addAll(t.entries.values());
            }
        }
        return all;
    }

    public int blocksUnder(int folder) {
        up();
        Set<Thing> all = below(node(folder));
        int count = blocks(all).size();
        for (Thing t : all) {
            count += t.type == 2 ? taken(t) : 0;
        }
        return count;
    }

    public int wouldFree(int node) {
        up();
        node(node);
        World without = world.copy();
        Set<Thing> gone = below(without.things.get(node));
        without.things.values().removeAll(gone);
        without.things.values().forEach(t -> t.entries.values().removeAll(gone));
        return used(world) - used(without);
    }

    // ---- all of it, asked

    public int used() {
        up();
        return used(world);
    }

    public int usedBy(int user) {
        up();
        arg(user >= 0 && user <= 3);
        return usedBy(world, user);
    }

    public int quotaOf(int user) {
        up();
        arg(user >= 0 && user <= 3);
        return world.quotas[user];
    }

    public int greatestFile() {
        up();
        int best = -1;
        for (Map.Entry<Integer, Thing> e : world.things.entrySet()) {
            if (e.getValue().type == 1
                    && (best < 0 || e.getValue().blocks.size() > world.things.get(best).blocks.size())) {
                best = e.getKey();
            }
        }
        return best;
    }

    public double meanSize() {
        up();
        Map<Thing, Integer> sizes = new HashMap<>();
        world.things.values().stream().filter(t -> t.type == 1).forEach(t -> sizes.put(t, t.size));
        return sizes.values().stream().mapToInt(x -> x).average().orElse(0);
    }

    public int flaws() {
        up();
        return 0;
    }

    public long digest() {
        up();
        List<Long> row = new ArrayList<>();
        Collections.addAll(row, (long) nodes(), (long) changes(), (long) waiting(), (long) handles(),
                (long) mounts(), (long) used());
        for (int user = 0; user < 4; user++) {
            Collections.addAll(row, (long) usedBy(user), (long) quotaOf(user));
        }
        row.add((long) greatestFile());
        for (int n : world.things.keySet()) {
            Thing t = node(n);
            int[] told = {
                n, t.type, linksOf(n), t.owner, sizeOf(n), blocksOf(n), sharedOf(n), parentOf(n), depthOf(n),
                blocksUnder(n), wouldFree(n)
            };
            for (int x : told) {
                row.add((long) x);
            }
            for (int at = 0; t.type == 1 && at < t.size; at++) {
                row.add((long) peek(t, at));
            }
            for (int name : t.entries.keySet()) {
                Collections.addAll(row, (long) name, (long) lookup(n, name), (long) follow(n, name));
            }
        }
        for (int h : grips.keySet()) {
            Collections.addAll(row, (long) h, (long) nodeOf(h), (long) positionOf(h), (long) lockRows(h));
        }
        long d = 58004;
        for (long x : row) {
            d = d * 31 + x;
        }
        return d;
    }
}
