import java.util.List;

/** Every call with every choice of numbers at, on and beyond its edges, in several states, against the Model. */
public final class GridTest {
    private static final int MIN = Edges.MIN, MAX = Edges.MAX;
    /** What each number of a call tells: by these letters their edges are found. */
    private static final String[] TOLD = {
        "slin", "pk", "pv", "k", "pp", "slinw", "pp", "ppk", "k", "", "", "", "k", "pp", "ppv", "k", "p", "p", "kk",
        "sln", "s", "siv", "sil", "sisin", "p", "p", "pk", "", "", "k"
    };

    private final Scene scene;
    private Both both;

    private GridTest(Scene scene) {
        this.scene = scene;
    }

    public static void main(String[] args) {
        Scene full = Scene.BUSY;
        for (int k = 0; k < 6; k++) {
            full = full.then("reading", k, 6 - k, 10 * k);
        }
        Scene day = Scene.vine(Scene.STAR).cells(1, 2, 7, 6, 3, 12, 6, 5).cells(2, 2, 1, 2, 3, 17);
        List<Scene> scenes = List.of(Scene.NEW, Scene.BARE, Scene.BUSY, full, day,
            Scene.vine(Scene.TWO).cells(1, 1, 9, 11, 0, 1));
        for (Scene scene : scenes) {
            new GridTest(scene).run();
        }
        Checks.finish("GridTest");
    }

    private void run() {
        for (int which = 0; which < Calls.NAMES.length && !Checks.anyWrong(); which++) {
            both = scene.on(new Both());
            choose(which, new int[Calls.COUNTS[which]], 0);
        }
    }

    private void choose(int which, int[] a, int k) {
        if (Checks.anyWrong()) {
            return;
        }
        if (k == a.length) {
            ask(Calls.NAMES[which], a);
            return;
        }
        for (int v : edgesOf(TOLD[which].charAt(k))) {
            a[k] = v;
            choose(which, a, k + 1);
        }
    }

    private void ask(String name, int[] a) {
        if (both.isLast() || both.isUsedUp()) {
            both = scene.on(new Both());
        }
        both.call(name, a);
        both.call("fault");
    }

    private static int[] edgesOf(char told) {
        switch (told) {
            case 's': return new int[] {MIN, -1, 0, 1, 2, 3, 4, MAX};
            case 'l': return new int[] {MIN, -1, 0, 1, 2, 3, MAX};
            case 'i': return new int[] {MIN, -1, 0, 1, 2, 3, 4, 6, 7, 20, 21, 22, MAX};
            case 'n': return new int[] {MIN, -1, 0, 1, 2, 3, 4, 6, 20, 21, 22, 60, 61, MAX};
            case 'w': return new int[] {MIN, -1, 0, 1, 2, 3, 4, 5, 9, 10, 13, 16, 17, 18, MAX};
            case 'p': return new int[] {MIN, -1, 0, 1, 2, 3, 4, 5, 6, 7, 8, MAX};
            case 'v': return new int[] {MIN, -1, 0, 1, 9, 10, 127, 128, 200, 201, MAX};
            default: return new int[] {MIN, -1, 0, 1, 2, 3, 4, 5, 6, 7, 8, 9, MAX};
        }
    }
}
