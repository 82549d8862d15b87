import java.util.Random;

/** Runs of 512 calls, many of them with numbers at or beyond an edge, against the Model. */
public final class LongRunsTest implements Caller {
    private static final int[] EDGES = {
        Integer.MIN_VALUE, Integer.MIN_VALUE + 1, -256, -10, -2, -1, 0, 1, 2, 3, 4, 5, 6, 7, 8, 9, 10, 17,
        18, 20, 21, 59, 60, 61, 127, 128, 200, 201, 255, 256, 32767, 32768, 65536,
        Integer.MAX_VALUE - 1, Integer.MAX_VALUE
    };

    private final Random random;
    private final Both both = new Both();

    private LongRunsTest(long seed) {
        random = new Random(seed);
    }

    public static void main(String[] args) {
        for (int seed = 0; seed < 1500 && !Checks.anyWrong(); seed++) {
            new LongRunsTest(seed).run();
        }
        Checks.finish("LongRunsTest");
    }

    /** What begins ahead of the 512th call may end behind it: that part is left out. */
    @Override public long call(String name, int... a) {
        return both.isUsedUp() ? 0 : both.call(name, a);
    }

    private void run() {
        if (random.nextInt(4) != 0) {
            plant();
        }
        while (!both.isUsedUp() && !Checks.anyWrong()) {
            switch (random.nextInt(40)) {
                case 0: plant(); break;
                case 1: case 2: case 3: day(); break;
                case 4: case 5: case 6: call("graft", post(), post()); break;
                case 7: case 8: trueReading(); break;
                case 9: call("load", post(), random.nextInt(10)); break;
                case 10: case 11: sheetWork(); break;
                default: anyCall(); break;
            }
        }
    }

    /** Most texts are right; some are cut, have one code more, or one that is another. */
    private void plant() {
        int n = 2 + random.nextInt(7);
        StringBuilder text = new StringBuilder("v" + n);
        for (int k = 0; k < n - 2; k++) {
            text.append(random.nextInt(n));
        }
        for (int p = 0; p < n; p++) {
            text.append("pbd".charAt(random.nextInt(3))).append(random.nextInt(10));
        }
        if (random.nextInt(4) == 0) {
            text.setCharAt(random.nextInt(text.length()), "vpbdx/0123456789:".charAt(random.nextInt(17)));
        }
        if (random.nextInt(8) == 0) {
            text.setLength(random.nextInt(text.length()));
        }
        if (random.nextInt(8) == 0) {
            text.append("p0v9".charAt(random.nextInt(4)));
        }
        Calls.plant(this, text.toString(), random.nextInt(3), random.nextInt(3));
        call("fault");
    }

    private void day() {
        int n = random.nextInt(6);
        call("sheet", 1, 2, 2 * n + random.nextInt(2));
        for (int k = 0; k < n; k++) {
            int first = random.nextInt(12) == 0 ? any() : post();
            int second = random.nextInt(12) == 0 ? any() : random.nextInt(3) == 0 ? 10 + post() : post();
            call("put", 1, 2 * k, first);
            call("put", 1, 2 * k + 1, second);
        }
        for (int what = 0; what < 18; what++) {
            if (random.nextInt(3) == 0) {
                call("day", 1, 2, 0, n, what);
                call("fault");
            }
        }
    }

    /** One that is so, or nearly: else the sets would nearly always have nothing in them. */
    private void trueReading() {
        int a = post();
        int b = post();
        int worth = random.nextInt(6) == 0 ? random.nextInt(4) - 2 : 0;
        if (both.m.far(a, b) >= 0) {
            for (int p : Model.wayOf(both.m.twigs, a, b, -1)) {
                worth += both.m.posts.get(p).worth();
            }
        }
        call("reading", a, b, worth);
        for (int p = 0; p < both.m.posts.size(); p++) {
            call("loadings", p);
            call("kinds", p);
        }
    }

    private void sheetWork() {
        int k = random.nextInt(4);
        int n = random.nextInt(12);
        if (random.nextInt(3) == 0) {
            call("sheet", k, random.nextInt(3), n);
        }
        for (int i = 0; i < n; i++) {
            call("put", k, i, random.nextInt(3) == 0 ? any() : random.nextInt());
        }
        call("copy", k, small(), random.nextBoolean() ? k : random.nextInt(4), small(), small());
        call("fault");
        for (int i = 0; i < n; i++) {
            call("cell", k, i, random.nextInt(3));
        }
    }

    private void anyCall() {
        int which = random.nextInt(Calls.NAMES.length);
        if (Calls.NAMES[which].equals("alike") && both.m.posts.size() > 6) {
            return;
        }
        int[] a = new int[Calls.COUNTS[which]];
        for (int k = 0; k < a.length; k++) {
            a[k] = random.nextInt(5) == 0 ? any() : small();
        }
        call(Calls.NAMES[which], a);
        call("fault");
        call("many", random.nextInt(4));
        call("trace");
    }

    private int post() {
        return random.nextInt(Math.max(1, both.m.posts.size() + (random.nextInt(6) == 0 ? 1 : 0)));
    }

    private int small() {
        return random.nextInt(3) == 0 ? random.nextInt(12) - 2 : random.nextInt(4);
    }

    private int any() {
        return EDGES[random.nextInt(EDGES.length)];
    }
}
