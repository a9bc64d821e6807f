import java.util.function.IntFunction;

/** Tries calls at the edges that the document names, each on an object of its own. */
final class Bounds {
    static final String STATE = "throws.IllegalStateException";
    static final String INDEX = "throws.IndexOutOfBoundsException";
    static final String ARGUMENT = "throws.IllegalArgumentException";

    private Bounds() {
    }

    /** That a call behind a scene has the answer that is due. */
    static void tells(Scene scene, Scene.Ask call, Object due) {
        Check.same("", Scene.answer(scene.made(), call), due);
    }

    /** That a call is refused with the answer that is due, and leaves all as it was. */
    static void refuses(Scene scene, Scene.Ask call, Object due) {
        tells(scene, call, due);
        leaves(scene, call);
    }

    /** That a call leaves all as it was. */
    static void leaves(Scene scene, Scene.Ask call) {
        Check.sameRows(Picture.behind(scene, call), Picture.of(scene));
    }

    /** That two ways lead to the same: what can be seen behind them is the same. */
    static void meet(Scene one, Scene other) {
        Check.sameRows(Picture.of(one), Picture.of(other));
    }

    /** That an argument may be from least to most, and what is answered then; any other one is refused. */
    static void range(Scene scene, int least, int most, Scene.Numbered call, IntFunction<Object> due) {
        int[] fine = {least, least + 1, (least + most) / 2, most - 1, most};
        for (int x : fine) {
            if (x >= least && x <= most) {
                Check.same("with " + x + " ", Scene.answer(scene.made(), d -> call.of(d, x)), due.apply(x));
            }
        }
        wrong(scene, least, most, call);
    }

    /** That an argument that is not from least to most is refused. */
    static void wrong(Scene scene, int least, int most, Scene.Numbered call) {
        int[] wrong = {Integer.MIN_VALUE, least - 2, least - 1, most + 1, most + 2, Integer.MAX_VALUE};
        for (int x : wrong) {
            refuses(scene, d -> call.of(d, x), ARGUMENT);
        }
    }

    /** That numbers without a node are refused; behind USUAL the nodes are 0 to 6. */
    static void noNode(Scene.Numbered call) {
        int[] none = {Integer.MIN_VALUE, -1, 7, 8, 31, 32, 33, 64, Integer.MAX_VALUE};
        for (int x : none) {
            refuses(Scenes.USUAL, d -> call.of(d, x), INDEX);
        }
    }

    /** That numbers without a handle are refused; behind USUAL the handles are 0 to 2, and 4. */
    static void noHandle(Scene.Numbered call) {
        int[] none = {Integer.MIN_VALUE, -1, 3, 5, 6, 7, Integer.MAX_VALUE};
        for (int x : none) {
            refuses(Scenes.USUAL, d -> call.of(d, x), INDEX);
        }
    }

    /** That a call is refused while it is DOWN, and is none behind the mount(). */
    static void down(Scene.Ask call) {
        refuses(Scenes.DOWN, call, STATE);
        refuses(Scenes.DOWN_STILL, call, STATE);
    }
}
