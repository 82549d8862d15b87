import java.lang.reflect.InvocationTargetException;
import java.lang.reflect.Method;
import java.util.List;

/**
 * What the edge tests share. Each call is made on objects of its own, behind the calls of a scene, and
 * once more against the Model, with all that can be asked behind it.
 */
final class Edges {
    static final int UNKNOWN = -1, OUTSIDE = -2, STATE = -3, FULL = -4, NONE = -9;
    static final int NULL = -11, CAST = -12, INDEX = -13, SIZE = -14;
    static final int MIN = Integer.MIN_VALUE, MAX = Integer.MAX_VALUE;
    static final long LOST = Long.MIN_VALUE;

    /** Runs each method whose name begins with "promise", and ends the program. */
    static void runAll(Class<?> tests) throws IllegalAccessException {
        for (Method m : tests.getDeclaredMethods()) {
            if (m.getName().startsWith("promise")) {
                m.setAccessible(true);
                runOne(m);
            }
        }
        Checks.finish(tests.getSimpleName());
    }

    private static void runOne(Method m) throws IllegalAccessException {
        try {
            m.invoke(null);
        } catch (InvocationTargetException e) {
            Checks.holds(m.getName() + " came to " + e.getCause(), false);
        }
    }

    /** A call that may change something. */
    static void does(String sentence, Scene scene, long want, String name, int... a) {
        Checks.due(sentence + ": " + Calls.told(name, a), scene.on(new Run()).call(name, a), want);
        byModel(scene, name, a);
    }

    /**
     * A call that changes nothing: one that asks, or one that is refused. fault() stays, unless the call
     * names faults: then it is the one that is answered, or 0.
     */
    static void still(String sentence, Scene scene, long want, String name, int... a) {
        Run without = scene.on(new Run());
        long fault = without.call("fault");
        if (Calls.namesFaults(name)) {
            fault = want >= SIZE && want <= NULL && !name.equals("cell") ? -10 - want : 0;
        }
        unchanged(sentence, scene, want, fault, name, a);
    }

    /** A call for a cell that answers LOST; 0 is no fault, but a refusal. */
    static void lostCell(String sentence, Scene scene, int fault, int k, int i, int lane) {
        unchanged(sentence, scene, LOST, fault, "cell", k, i, lane);
    }

    private static void unchanged(String sentence, Scene scene, long want, long fault, String name, int... a) {
        String call = sentence + ": " + Calls.told(name, a);
        Run with = scene.on(new Run());
        Checks.due(call, with.call(name, a), want);
        Checks.due(call + ", then fault()", with.call("fault"), fault);
        List<String> before = Probe.of(scene.on(new Run()));
        List<String> behind = Probe.of(with);
        Checks.holds(call + " changes nothing; " + firstUnlike(before, behind), before.equals(behind));
        byModel(scene, name, a);
    }

    private static String firstUnlike(List<String> before, List<String> behind) {
        for (int k = 0; k < Math.min(before.size(), behind.size()); k++) {
            if (!before.get(k).equals(behind.get(k))) {
                return "before " + before.get(k) + ", behind " + behind.get(k);
            }
        }
        return "as many answers before as behind";
    }

    private static void byModel(Scene scene, String name, int... a) {
        Both both = scene.on(new Both());
        both.call(name, a);
        both.call("fault");
        Probe.of(both);
    }

    /** Numbers that are none of 0 .. most: the nearest, and the farthest. */
    static int[] beside(int most) {
        return new int[] {-1, most + 1, MIN, MAX};
    }

    /** How many vines there are of n posts, by the rows: n ^ (n less 2). */
    static int rows(int n) {
        int all = 1;
        for (int k = 0; k < n - 2; k++) {
            all *= n;
        }
        return all;
    }

    /** A right text of n posts: each hangs on the last one. */
    static String textOf(int n) {
        StringBuilder text = new StringBuilder("v").append(n);
        for (int k = 0; k < n - 2; k++) {
            text.append(n - 1);
        }
        for (int p = 0; p < n; p++) {
            text.append("pbd".charAt(p % 3)).append(9 - p);
        }
        return text.toString();
    }

    /** A text of which the code in one place is another. */
    static String with(String text, int place, int code) {
        return text.substring(0, place) + (char) code + text.substring(place + 1);
    }
}
