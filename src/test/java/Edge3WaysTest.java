/** The edges of section 3: WAYS, MIDDLE, NUMBER, ALIKE, PAIRS, LONERS, PART; promises 8 to 15. */
public final class Edge3WaysTest {
    private static final int UNKNOWN = Edges.UNKNOWN, OUTSIDE = Edges.OUTSIDE, STATE = Edges.STATE;
    private static final int NONE = Edges.NONE;
    private static final Scene BARE = Scene.BARE, BUSY = Scene.BUSY;
    private static final Scene TWO = Scene.vine(Scene.TWO);
    private static final Scene STAR = Scene.vine(Scene.STAR);
    private static final Scene PATH = Scene.vine(Scene.PATH);
    /** Two POSTS in the middle of a twig, with three more on each. */
    private static final Scene BROOM = Scene.vine("v8000111p0p0p0p0p0p0p0p0");
    /** Three arms of two POSTS each: 0-1-4, 0-2-5, 0-3-6. */
    private static final Scene ARMS = Scene.vine("v710203p0p0p0p0p0p0p0");

    public static void main(String[] args) throws Exception {
        Edges.runAll(Edge3WaysTest.class);
    }

    /** Each of n posts hangs on the next. */
    private static Scene path(int n) {
        StringBuilder text = new StringBuilder("v").append(n);
        for (int k = 1; k <= n - 2; k++) {
            text.append(k);
        }
        for (int p = 0; p < n; p++) {
            text.append("p1");
        }
        return Scene.vine(text.toString());
    }

    /** Each of n posts hangs on the last. */
    private static Scene star(int n) {
        return Scene.vine(Edges.textOf(n));
    }

    private static void noSuchPost(String sentence, String call, int... more) {
        for (int p : Edges.beside(6)) {
            Edges.still(sentence, BUSY, UNKNOWN, call, joined(p, 0, more));
            Edges.still(sentence, BUSY, UNKNOWN, call, joined(0, p, more));
            Edges.still(sentence, BUSY, UNKNOWN, call, joined(p, p, more));
        }
        for (int n = 2; n <= 8; n++) {
            Edges.still(sentence, star(n), UNKNOWN, call, joined(n, 0, more));
            Edges.still(sentence, star(n), UNKNOWN, call, joined(n - 1, n, more));
        }
        Edges.still(sentence, BARE, UNKNOWN, call, joined(0, 0, more));
        Edges.still(sentence, BARE, UNKNOWN, call, joined(0, 1, more));
    }

    private static int[] joined(int a, int b, int... more) {
        int[] all = new int[2 + more.length];
        all[0] = a;
        all[1] = b;
        System.arraycopy(more, 0, all, 2, more.length);
        return all;
    }

    // Promise 8: far

    private static void promise8NoSuchPost() {
        noSuchPost("promise 8, UNKNOWN", "far");
        for (int n = 2; n <= 8; n++) {
            Edges.still("promise 8, UNKNOWN", star(n), 1, "far", n - 1, 0);
            Edges.still("promise 8, UNKNOWN", star(n), 1, "far", 0, n - 1);
        }
    }

    private static void promise8OfOneAndItself() {
        for (int p = 0; p < 8; p++) {
            Edges.still("promise 8, 0 of one and itself", PATH, 0, "far", p, p);
            Edges.still("promise 8, 0 of one and itself", STAR.then("graft", 7, 6), 0, "far", p, p);
        }
    }

    private static void promise8From1To7() {
        for (int a = 0; a < 8; a++) {
            for (int b = 0; b < 8; b++) {
                Edges.still("promise 8, how many TWIGS are on the WAY", PATH, Math.abs(a - b), "far", a, b);
            }
        }
        Edges.still("promise 8, how many TWIGS are on the WAY", TWO, 1, "far", 1, 0);
        Edges.still("promise 8, how many TWIGS are on the WAY", STAR, 2, "far", 7, 1);
    }

    // Promise 9: way

    private static void promise9NoSuchPost() {
        noSuchPost("promise 9, UNKNOWN", "way", 0);
        Edges.still("promise 9, UNKNOWN", BUSY, 6, "way", 6, 0, 0);
        Edges.still("promise 9, UNKNOWN", BUSY, 2, "way", 0, 6, 2);
    }

    private static void promise9PlacesAre0To7() {
        for (int k : Edges.beside(7)) {
            Edges.still("promise 9, OUTSIDE: k (0 .. 7)", PATH, OUTSIDE, "way", 0, 7, k);
            Edges.still("promise 9, OUTSIDE: k (0 .. 7)", BUSY, OUTSIDE, "way", 3, 3, k);
        }
        for (int k = 0; k < 8; k++) {
            Edges.still("promise 9, place k", PATH, k, "way", 0, 7, k);
            Edges.still("promise 9, place k", PATH, 7 - k, "way", 7, 0, k);
        }
    }

    private static void promise9ThereAreNotSoMany() {
        int[] way = {1, 3, 5, 2, 6, NONE, NONE, NONE};
        for (int k = 0; k < 8; k++) {
            Edges.still("promise 9, NONE: there are not so many", BUSY, way[k], "way", 1, 6, k);
        }
        for (int b = 1; b < 7; b++) {
            Edges.still("promise 9, the last in place of FAR", PATH, b, "way", 0, b, b);
            Edges.still("promise 9, NONE: there are not so many", PATH, NONE, "way", 0, b, b + 1);
        }
    }

    private static void promise9OfOneToItself() {
        for (int p = 0; p < 7; p++) {
            Edges.still("promise 9, of one to itself: itself", BUSY, p, "way", p, p, 0);
            Edges.still("promise 9, of one to itself: NONE", BUSY, NONE, "way", p, p, 1);
            Edges.still("promise 9, of one to itself: NONE", BUSY, NONE, "way", p, p, 7);
        }
    }

    private static void promise9Order() {
        Edges.still("promise 9, order: UNKNOWN, OUTSIDE", BUSY, UNKNOWN, "way", 7, 0, 8);
        Edges.still("promise 9, order: UNKNOWN, OUTSIDE", BUSY, UNKNOWN, "way", 0, -1, -1);
        Edges.still("promise 9, order: UNKNOWN, OUTSIDE", BARE, UNKNOWN, "way", 0, 0, 8);
    }

    // Promise 10: middle

    private static void whatIs0And1(int promise, String call) {
        for (int what : Edges.beside(1)) {
            Edges.still("promise " + promise + ", OUTSIDE", BUSY, OUTSIDE, call, what);
            Edges.still("promise " + promise + ", order: OUTSIDE, STATE", BARE, OUTSIDE, call, what);
        }
        for (int what = 0; what < 2; what++) {
            Edges.still("promise " + promise + ", STATE: there is no VINE", BARE, STATE, call, what);
        }
    }

    private static void promise10WhatIs0And1() {
        whatIs0And1(10, "middle");
        Edges.still("promise 10, what 0", BUSY, 32, "middle", 0);
        Edges.still("promise 10, what 1", BUSY, 4, "middle", 1);
    }

    private static void promise10OneOrTwoInTheMiddle() {
        for (int n = 2; n <= 8; n++) {
            Edges.still("promise 10, MIDDLE", path(n), 1 << (n - 1) / 2 | 1 << n / 2, "middle", 0);
        }
        for (int n = 3; n <= 8; n++) {
            Edges.still("promise 10, MIDDLE", star(n), 1 << n - 1, "middle", 0);
        }
        Edges.still("promise 10, MIDDLE", BROOM, 3, "middle", 0);
        Edges.still("promise 10, MIDDLE", ARMS, 1, "middle", 0);
    }

    private static void promise10LongIs1To7() {
        for (int n = 2; n <= 8; n++) {
            Edges.still("promise 10, LONG", path(n), n - 1, "middle", 1);
        }
        for (int n = 3; n <= 8; n++) {
            Edges.still("promise 10, LONG", star(n), 2, "middle", 1);
        }
    }

    private static void promise10AsItIsNow() {
        Edges.still("promise 10, MIDDLE after a GRAFT", PATH.then("graft", 7, 0), 4 + 8, "middle", 0);
        Edges.still("promise 10, LONG after a GRAFT", PATH.then("graft", 7, 1), 6, "middle", 1);
    }

    // Promise 11: number

    private static void promise11ThereIsNoVine() {
        Edges.still("promise 11, STATE: there is no VINE", BARE, STATE, "number");
    }

    private static void promise11TheFirstAndTheLast() {
        for (int n = 2; n <= 8; n++) {
            String posts = Edges.textOf(n).substring(n);
            Scene first = Scene.vine("v" + n + "0".repeat(n - 2) + posts);
            Scene last = Scene.vine("v" + n + String.valueOf(n - 1).repeat(n - 2) + posts);
            Edges.still("promise 11, no ROW comes ahead", first, 0, "number");
            Edges.still("promise 11, all other ROWS come ahead", last, Edges.rows(n) - 1, "number");
        }
    }

    private static void promise11ByTheFirstDigitsThatDiffer() {
        String posts = "p0p0p0p0";
        Edges.still("promise 11, by the first digits that differ", Scene.vine("v403" + posts), 3, "number");
        Edges.still("promise 11, by the first digits that differ", Scene.vine("v410" + posts), 4, "number");
        Edges.still("promise 11, whatever kinds, LOADS", Scene.vine("v410d9b3p2d1"), 4, "number");
    }

    private static void promise11AsItIsNow() {
        Edges.still("promise 11, after a GRAFT", BUSY, 13218, "number");
        Edges.still("promise 11, after a GRAFT", STAR.then("graft", 1, 7), 7 * 32768, "number");
    }

    // Promise 12: alike

    private static void promise12ThereIsNoVine() {
        Edges.still("promise 12, STATE: there is no VINE", BARE, STATE, "alike");
    }

    private static void promise12StarsAndPaths() {
        int numberings = 1;
        for (int n = 2; n <= 8; n++) {
            numberings *= n;
            Edges.still("promise 12, a path of " + n, path(n), numberings / 2, "alike");
            Edges.still("promise 12, a star of " + n, star(n), n == 2 ? 1 : n, "alike");
        }
    }

    private static void promise12OtherShapes() {
        Edges.still("promise 12, two like parts change about", BUSY, 2520, "alike");
        Edges.still("promise 12, none is like another", Scene.vine(Scene.SEVEN), 5040, "alike");
        Edges.still("promise 12, both ends and all on them", BROOM, 560, "alike");
        Edges.still("promise 12, three arms", ARMS, 840, "alike");
        Edges.still("promise 12, a star with one farther off", STAR.then("graft", 7, 6), 56 * 6, "alike");
    }

    /** Each SHAPE has as many VINES as each of them tells, so that the shares of all VINES make up the SHAPES. */
    private static void promise12AllVinesMakeUpAllShapes() {
        int[] shapes = {0, 0, 1, 1, 2, 3, 6, 11, 23};
        for (int n = 2; n <= 8; n++) {
            int[] told = new int[40321];
            for (int number = 0; number < Edges.rows(n); number++) {
                StringBuilder row = new StringBuilder();
                for (int k = 0, rest = number; k < n - 2; k++, rest /= n) {
                    row.insert(0, rest % n);
                }
                VineRows x = new VineRows();
                Checks.plant(x, "v" + n + row + "p0".repeat(n));
                int alike = x.alike();
                told[Math.max(0, Math.min(40320, alike))]++;
            }
            int found = 0;
            for (int alike = 1; alike <= 40320; alike++) {
                Checks.due("promise 12, VINES of " + n + " that tell " + alike, told[alike] % alike, 0);
                found += told[alike] / alike;
            }
            Checks.due("promise 12, SHAPES of " + n + " POSTS", found, shapes[n]);
        }
    }

    private static void promise12WhateverKindsAndLoads() {
        Edges.still("promise 12, (whatever kinds, LOADS)", Scene.vine("v31p0p0p0"), 3, "alike");
        Edges.still("promise 12, (whatever kinds, LOADS)", Scene.vine("v31p1d9b4"), 3, "alike");
    }

    // Promise 13: pairs

    private static void promise13ThereIsNoVine() {
        Edges.still("promise 13, STATE: there is no VINE", BARE, STATE, "pairs");
    }

    private static void promise13From1To4() {
        for (int n = 2; n <= 8; n++) {
            Edges.still("promise 13, a path of " + n, path(n), n / 2, "pairs");
            Edges.still("promise 13, a star of " + n, star(n), 1, "pairs");
        }
        Edges.still("promise 13, PAIRS", BROOM, 2, "pairs");
        Edges.still("promise 13, PAIRS", ARMS, 3, "pairs");
        Edges.still("promise 13, PAIRS", BUSY, 3, "pairs");
        Edges.still("promise 13, PAIRS after a GRAFT", STAR.then("graft", 7, 6), 2, "pairs");
    }

    // Promise 14: loners

    private static void loners(String sentence, String text, int worth, int set) {
        Edges.still("promise 14, " + sentence, Scene.vine(text), worth, "loners", 0);
        Edges.still("promise 14, " + sentence, Scene.vine(text), set, "loners", 1);
    }

    private static void promise14WhatIs0And1() {
        whatIs0And1(14, "loners");
        Edges.still("promise 14, what 0", BUSY, 27, "loners", 0);
        Edges.still("promise 14, what 1", BUSY, 2 + 1 + 4 + 16, "loners", 1);
    }

    private static void promise14OfSeveralSetsTheLeast() {
        String s = "of several sets the least";
        loners(s, "v2p1p1", 1, 1);
        loners(s + ", fewer POSTS", "v31p1p2p1", 2, 2);
        loners(s + ", more POSTS", "v32p1p1p2", 2, 3);
        loners(s, "v8123456p1p1p1p1p1p1p1p1", 4, 85);
        loners(s, "v8123456b0b0b0b0b0b0b0b0", 4, 85);
    }

    private static void promise14PostsOfNoWorthAreLeftOut() {
        String s = "of several sets the least: no WORTH";
        loners(s, "v2p0d0", 0, 0);
        loners(s, "v8000000p0d0p0d0p0d0p0d0", 0, 0);
        loners(s, "v8000000p9d0p0d0p0d0p0d0", 9, 1);
        loners(s, "v2p0b0", 1, 2);
        loners(s, "v31p0p0p1", 1, 4);
    }

    private static void promise14TheMostWorth() {
        String s = "the most WORTH together";
        loners(s, "v8000000p0d9d9d9d9d9d9d9", 126, 254);
        loners(s, "v8000000d9p2p2p2p2p2p2p2", 18, 1);
        loners(s + ", one more makes the difference", "v8000000d9p2p2p2p2p2p2p7", 19, 254);
        loners(s, "v8777777d9d9d9d9d9d9d9p0", 126, 127);
        loners(s + ", two apart on a path", "v412p5p1p1p5", 10, 9);
    }

    private static void promise14NoTwoHangOnOneAnother() {
        loners("no two hang on one another", "v2p1b2", 3, 2);
        loners("no two hang on one another", "v2p9b9", 10, 2);
        loners("no two hang on one another", "v2d9b9", 18, 1);
    }

    private static void promise14AsItIsNow() {
        Scene after = TWO.then("load", 0, 9);
        Edges.still("promise 14, after load()", after, 9, "loners", 0);
        Edges.still("promise 14, after load()", after, 1, "loners", 1);
        Scene moved = Scene.vine("v31p1p2p1").then("graft", 2, 0);
        Edges.still("promise 14, after graft()", moved, 3, "loners", 0);
        Edges.still("promise 14, after graft()", moved, 6, "loners", 1);
    }

    // Promise 15: part

    private static void promise15NoSuchPost() {
        noSuchPost("promise 15, UNKNOWN: either", "part");
        Edges.still("promise 15, UNKNOWN: either", BUSY, 4, "part", 6, 2);
        Edges.still("promise 15, UNKNOWN: either", BUSY, 3, "part", 0, 5);
    }

    private static void promise15BothTheSame() {
        for (int p = 0; p < 7; p++) {
            Edges.still("promise 15, UNKNOWN: both the same", BUSY, UNKNOWN, "part", p, p);
        }
    }

    private static void promise15NoTwigIsBetween() {
        for (int b = 2; b < 8; b++) {
            Edges.still("promise 15, STATE: no TWIG is between", PATH, STATE, "part", 0, b);
            Edges.still("promise 15, STATE: no TWIG is between", PATH, STATE, "part", b, 0);
        }
        Edges.still("promise 15, STATE: no TWIG is between", BUSY, STATE, "part", 0, 1);
        Edges.still("promise 15, STATE: no TWIG is between", STAR, STATE, "part", 1, 2);
    }

    private static void promise15BothParts() {
        String s = "promise 15, (the first, too)";
        for (int a = 0; a < 7; a++) {
            Edges.still(s, PATH, a + 1, "part", a, a + 1);
            Edges.still(s, PATH, 7 - a, "part", a + 1, a);
        }
        Edges.still(s, TWO, 1, "part", 0, 1);
        Edges.still(s, TWO, 3, "part", 1, 0);
        Edges.still(s, BUSY, 20, "part", 3, 5);
        Edges.still(s, BUSY, 26, "part", 5, 3);
        Scene heavy = Scene.vine("v8000000d9d9d9d9d9d9d9d9");
        Edges.still(s, heavy, 126, "part", 0, 1);
        Edges.still(s, heavy, 18, "part", 1, 0);
    }
}
