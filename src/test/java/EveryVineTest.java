import java.util.Random;

/** Every vine of up to six posts, and many of seven and eight: all that can be asked of it. */
public final class EveryVineTest {
    public static void main(String[] args) {
        Random random = new Random(7);
        for (int n = 2; n <= 6; n++) {
            int all = 1;
            for (int k = 0; k < n - 2; k++) {
                all *= n;
            }
            for (int number = 0; number < all; number++) {
                ask(n, number, random);
            }
        }
        for (int k = 0; k < 60; k++) {
            ask(7, random.nextInt(16807), random);
            ask(8, random.nextInt(262144), random);
        }
        for (int middle = 0; middle < 8; middle++) {
            ask(8, middle * 0111111, random);
        }
        Checks.finish("EveryVineTest");
    }

    /** The vine of a number: its row are the digits of that. */
    private static void ask(int n, int number, Random random) {
        if (Checks.anyWrong()) {
            return;
        }
        Both both = new Both();
        StringBuilder text = new StringBuilder();
        int rest = number;
        for (int k = 0; k < n - 2; k++) {
            text.insert(0, rest % n);
            rest /= n;
        }
        text.insert(0, "v" + n);
        for (int p = 0; p < n; p++) {
            text.append("pbd".charAt(random.nextInt(3))).append(random.nextInt(10));
        }
        Calls.plant(both, text.toString(), random.nextInt(3), random.nextInt(5));
        Checks.due("number of " + text, both.x.number(), number);
        for (String name : new String[] {"number", "alike", "pairs"}) {
            both.call(name);
        }
        for (int k = 0; k < 8; k++) {
            both.call("row", k);
            both.call("odds", k, 0);
            both.call("odds", k, 1);
        }
        for (int k = 0; k < 2; k++) {
            both.call("middle", k);
            both.call("loners", k);
        }
        for (int p = 0; p <= n; p++) {
            askOfPost(text.toString(), n, p);
        }
    }

    /** An object of its own for each post, so that none is asked too much. */
    private static void askOfPost(String text, int n, int p) {
        Both both = new Both();
        Calls.plant(both, text, p % 3, 0);
        for (int what = 0; what <= 6; what++) {
            both.call("ofPost", p, what);
        }
        for (int q = 0; q <= n; q++) {
            both.call("far", p, q);
            both.call("part", p, q);
            for (int k = 0; k <= n; k++) {
                both.call("way", p, q, k);
            }
        }
        both.call("tell", p);
        both.call("knock", p);
        both.call("trace");
    }
}
