import java.util.ArrayList;
import java.util.HashMap;
import java.util.List;
import java.util.Map;

/**
 * All that can be seen behind a scene: what is known, byte by byte and lock by lock, what waits, what a
 * fall of the power would leave, and which fall is still to come.
 */
final class Picture {
    private static final Map<Scene, String> known = new HashMap<>();

    private final Scene scene;
    private final StringBuilder rows = new StringBuilder();

    private Picture(Scene scene) {
        this.scene = scene;
    }

    static String of(Scene scene) {
        return known.computeIfAbsent(scene, s -> new Picture(s).draw());
    }

    /** The picture behind a scene and one call more; not kept, as a call is seldom made twice. */
    static String behind(Scene scene, Scene.Ask call) {
        return new Picture(scene.then(d -> Scene.answer(d, call))).draw();
    }

    private String draw() {
        JournalDisk disk = scene.made();
        row("down", disk.isDown());
        row("mounts", disk.mounts());
        if (!disk.isDown()) {
            drawKnown(disk);
            row("cut", Scene.answer(disk, d -> {
                d.cut();
                return "fell";
            }));
        }
        drawMounts("behind a fall", disk);
        drawLater("sync", JournalDisk::sync);
        drawLater("flush", JournalDisk::flush);
        for (int many = 6; many <= 8; many++) {
            int times = many;
            drawLater(many + " changes", d -> changes(d, times));
        }
        return rows.toString();
    }

    private void row(String what, Object answer) {
        rows.append(what).append(' ').append(answer).append('\n');
    }

    private void drawKnown(JournalDisk disk) {
        row("digest", disk.digest());
        row("waiting", disk.waiting());
        row("changes", disk.changes());
        row("mean", disk.meanSize());
        row("flaws", disk.flaws());
        List<Integer> files = new ArrayList<>();
        for (int n = 0; n < 32; n++) {
            row("type of " + n, disk.typeOf(n));
            if (disk.typeOf(n) == 1) {
                files.add(n);
            }
        }
        for (int n : files) {
            drawFile(n);
        }
        for (int h = 0; h < 6; h++) {
            int handle = h;
            Object node = Scene.answer(disk, d -> d.nodeOf(handle));
            row("node of handle " + h, node);
            if (node instanceof Integer) {
                row("position of handle " + h, disk.positionOf(h));
                drawLocks(h, (Integer) node);
            }
        }
    }

    private void drawFile(int node) {
        JournalDisk disk = scene.made();
        StringBuilder bytes = new StringBuilder();
        for (int place = 0; place < 320; place++) {
            bytes.append(' ').append(disk.byteAt(node, place));
        }
        for (int place = 0; place < 20; place++) {
            bytes.append(disk.isHole(node, place) ? " -" : " #");
        }
        row("file " + node, bytes);
    }

    // Whose a lock is, is told only by taking it away.
    private void drawLocks(int handle, int node) {
        JournalDisk kinds = scene.made();
        JournalDisk owners = scene.made();
        StringBuilder locks = new StringBuilder();
        for (int place = 0; place < 320; place++) {
            int kind = kinds.lockAt(node, place);
            locks.append(' ').append(kind).append(owners.unlock(handle, place, 1) == 1 ? "!" : "");
        }
        row("locks of handle " + handle, locks);
    }

    private static Object changes(JournalDisk disk, int many) {
        StringBuilder answers = new StringBuilder();
        for (int k = 0; k < many; k++) {
            answers.append(' ').append(Scene.answer(disk, d -> d.setQuota(3, 120)));
        }
        return answers;
    }

    private void drawLater(String what, Scene.Ask call) {
        JournalDisk disk = scene.made();
        if (disk.isDown()) {
            return;
        }
        row(what, Scene.answer(disk, call));
        row(what + ", down", disk.isDown());
        if (!disk.isDown()) {
            disk.cut();
        }
        drawMounts("behind " + what, disk);
    }

    private void drawMounts(String what, JournalDisk disk) {
        int answer = disk.mount();
        row(what + ", mount", answer);
        if (answer == -9) {
            row(what + ", mount again", disk.mount());
        }
        row(what + ", digest", disk.digest());
        row(what + ", a change", Scene.answer(disk, d -> d.setQuota(3, 120)));
        row(what + ", sync", Scene.answer(disk, JournalDisk::sync));
    }
}
