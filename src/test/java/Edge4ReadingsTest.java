/** The edges of section 4: READINGS, LOADINGS, KINDS, ODDS; promises 16 to 20. */
public final class Edge4ReadingsTest {
    private static final int UNKNOWN = Edges.UNKNOWN, OUTSIDE = Edges.OUTSIDE, FULL = Edges.FULL;
    private static final long LOST = Edges.LOST;
    private static final Scene BARE = Scene.BARE, BUSY = Scene.BUSY;
    private static final Scene TWO = Scene.vine(Scene.TWO);
    private static final Scene STAR = Scene.vine(Scene.STAR);
    private static final Scene PATH = Scene.vine(Scene.PATH);
    /** One of each kind with the same LOAD, on which all depends: 0-1, 0-2. */
    private static final Scene KINDS = Scene.vine("v30p3b3d3");

    public static void main(String[] args) throws Exception {
        Edges.runAll(Edge4ReadingsTest.class);
    }

    /** BUSY with so many READINGS, all of them so. */
    private static Scene withReadings(int count) {
        Scene scene = BUSY;
        for (int k = 2; k < count; k++) {
            scene = scene.then("reading", 0, 0, 3);
        }
        return scene;
    }

    // Promise 16: reading

    private static void promise16NoSuchPost() {
        String s = "promise 16, UNKNOWN: either POST";
        for (int p : Edges.beside(6)) {
            Edges.still(s, BUSY, UNKNOWN, "reading", p, 0, 0);
            Edges.still(s, BUSY, UNKNOWN, "reading", 0, p, 0);
        }
        Edges.does(s, BUSY, 2, "reading", 6, 0, 0);
        Edges.does(s, BUSY, 2, "reading", 0, 6, 0);
        Edges.still(s, BARE, UNKNOWN, "reading", 0, 0, 0);
        Edges.still(s, TWO, UNKNOWN, "reading", 1, 2, 0);
        Edges.does(s, TWO, 0, "reading", 1, 0, 0);
    }

    private static void promise16VIs0To200() {
        for (int v : Edges.beside(200)) {
            Edges.still("promise 16, OUTSIDE: v (0 .. 200)", BUSY, OUTSIDE, "reading", 0, 1, v);
        }
        Edges.does("promise 16, v 0", BUSY, 2, "reading", 0, 1, 0);
        Edges.does("promise 16, v 200", BUSY, 2, "reading", 0, 1, 200);
    }

    private static void promise16EightAtMost() {
        for (int count = 2; count < 8; count++) {
            Edges.does("promise 16, its number", withReadings(count), count, "reading", 0, 0, 3);
        }
        Edges.still("promise 16, FULL", withReadings(8), FULL, "reading", 0, 0, 3);
        Edges.still("promise 16, FULL", withReadings(8).then("reading", 0, 0, 3), FULL, "reading", 1, 2, 200);
        Edges.does("promise 16, one is taken back", withReadings(8).then("back", 1), 7, "reading", 0, 0, 3);
        Edges.does("promise 16, all are taken back", withReadings(8).then("back", 8), 0, "reading", 0, 0, 3);
        Scene anew = withReadings(8).then("vine", 0, 0, 0, 21);
        Edges.does("promise 16, a new TEXT", anew, 0, "reading", 0, 0, 3);
    }

    private static void promise16Order() {
        Edges.still("promise 16, order: UNKNOWN, OUTSIDE", BUSY, UNKNOWN, "reading", 7, 0, 201);
        Edges.still("promise 16, order: UNKNOWN, OUTSIDE", BUSY, UNKNOWN, "reading", 0, -1, -1);
        Edges.still("promise 16, order: UNKNOWN, FULL", withReadings(8), UNKNOWN, "reading", 0, 7, 0);
        Edges.still("promise 16, order: OUTSIDE, FULL", withReadings(8), OUTSIDE, "reading", 0, 0, 201);
        Edges.still("promise 16, order: OUTSIDE, FULL", withReadings(8), OUTSIDE, "reading", 0, 0, -1);
    }

    // Promise 17: back

    private static void promise17NIs0ToAsManyAsThereAre() {
        String s = "promise 17, OUTSIDE: n (0 .. as many as there are)";
        for (int count = 2; count <= 8; count++) {
            Scene scene = withReadings(count);
            for (int n : Edges.beside(count)) {
                Edges.still(s, scene, OUTSIDE, "back", n);
            }
            Edges.still(s, scene, count, "back", 0);
            Edges.does(s, scene, count - 1, "back", 1);
            Edges.does(s, scene, 0, "back", count);
        }
        Edges.still(s, BUSY.then("back", 2), 0, "back", 0);
        Edges.still(s, BUSY.then("back", 2), OUTSIDE, "back", 1);
    }

    private static void promise17WithoutAVine() {
        Edges.still("promise 17, there are none without a VINE", BARE, 0, "back", 0);
        for (int n : Edges.beside(0)) {
            Edges.still("promise 17, there are none without a VINE", BARE, OUTSIDE, "back", n);
        }
    }

    private static void promise17TheLast() {
        Scene scene = TWO.then("reading", 0, 0, 1).then("reading", 0, 0, 2).then("reading", 0, 0, 3);
        Edges.still("promise 17, three", scene, 0, "loadings", 0);
        Edges.still("promise 17, the last are taken back", scene.then("back", 1), 0, "loadings", 0);
        Edges.still("promise 17, the last are taken back", scene.then("back", 2), 2, "loadings", 0);
        Edges.still("promise 17, the last are taken back", scene.then("back", 3), 1023, "loadings", 0);
        Scene other = scene.then("back", 3).then("reading", 0, 0, 9);
        Edges.still("promise 17, a READING after that", other, 512, "loadings", 0);
    }

    // Promise 18: loadings

    private static void noSuchPost(int promise, String call, int all) {
        String s = "promise " + promise + ", UNKNOWN";
        for (int p : Edges.beside(6)) {
            Edges.still(s, BUSY, UNKNOWN, call, p);
        }
        Edges.still(s, BARE, UNKNOWN, call, 0);
        for (int n = 2; n <= 8; n++) {
            Scene scene = Scene.vine(Edges.textOf(n));
            Edges.still(s, scene, all, call, n - 1);
            Edges.still(s, scene, UNKNOWN, call, n);
        }
    }

    private static void promise18NoSuchPost() {
        noSuchPost(18, "loadings", 1023);
    }

    private static void promise18WithoutReadings() {
        for (int p = 0; p < 7; p++) {
            Edges.still("promise 18, without READINGS all can be", BUSY.then("back", 2), 1023, "loadings", p);
        }
    }

    private static void loadingsByOne(int p, int v, int want) {
        Edges.still("promise 18, LOAD 0 .. 9 of kind " + p + " by " + v, KINDS.then("reading", p, p, v), want,
            "loadings", p);
    }

    private static void promise18ALoadIs0To9() {
        loadingsByOne(0, 0, 1);
        loadingsByOne(0, 9, 512);
        loadingsByOne(0, 10, 0);
        loadingsByOne(0, 200, 0);
        loadingsByOne(1, 0, 0);
        loadingsByOne(1, 1, 1);
        loadingsByOne(1, 10, 512);
        loadingsByOne(1, 11, 0);
        loadingsByOne(2, 0, 1);
        loadingsByOne(2, 1, 0);
        loadingsByOne(2, 17, 0);
        loadingsByOne(2, 18, 512);
        loadingsByOne(2, 19, 0);
        loadingsByOne(2, 20, 0);
    }

    private static void promise18OnAWay() {
        String s = "promise 18, WORTH of all POSTS on the WAY (both of them, too)";
        // 1-0-2 has 4 and 3 and 6.
        int[][] cases = {{13, 3}, {9, -1}, {10, 0}, {19, 9}, {20, -1}};
        for (int[] c : cases) {
            int set = c[1] < 0 ? 0 : 1 << c[1];
            Edges.still(s, KINDS.then("reading", 1, 2, c[0]), set, "loadings", 0);
            Edges.still(s + ", the other way about", KINDS.then("reading", 2, 1, c[0]), set, "loadings", 0);
        }
        Edges.still(s, KINDS.then("reading", 1, 2, 10), 1, "loadings", 1);
        Edges.still(s, KINDS.then("reading", 1, 2, 9), 0, "loadings", 1);
        Edges.still(s, KINDS.then("reading", 1, 2, 25), 512, "loadings", 2);
        Edges.still(s, KINDS.then("reading", 1, 2, 24), 0, "loadings", 2);
    }

    private static void promise18AllReadings() {
        String s = "promise 18, by which all READINGS are so";
        Scene beside = KINDS.then("reading", 1, 1, 4);
        Edges.still(s + ": one that is so without it", beside, 1023, "loadings", 0);
        Edges.still(s + ": one that is not so without it", KINDS.then("reading", 1, 1, 5), 0, "loadings", 0);
        Edges.still(s, beside.then("reading", 0, 1, 9), 1 << 5, "loadings", 0);
        Edges.still(s, beside.then("reading", 0, 1, 9).then("reading", 0, 0, 5), 1 << 5, "loadings", 0);
        Edges.still(s + ": unlike ones", beside.then("reading", 0, 1, 9).then("reading", 0, 0, 6), 0, "loadings", 0);
        Edges.still(s + ": the same twice", beside.then("reading", 1, 1, 4), 1 << 3, "loadings", 1);
    }

    private static void promise18InPlaceOfWhatItIsAlone() {
        String s = "promise 18, in place of what it is alone";
        Scene two = TWO.then("reading", 0, 1, 5);
        Edges.still(s, two, 1 << 2, "loadings", 0);
        Edges.still(s, two, 1 << 3, "loadings", 1);
        Edges.still(s + ", after load()", two.then("load", 1, 0), 1 << 4, "loadings", 0);
        Edges.still(s + ", whatever its own LOAD is", two.then("load", 0, 9), 1 << 2, "loadings", 0);
    }

    private static void promise18OnTheWayAsItIsNow() {
        Scene scene = PATH.then("reading", 0, 7, 9);
        Edges.still("promise 18, on the WAY", scene, 1 << 2, "loadings", 3);
        Edges.still("promise 18, on the WAY as it is now", scene.then("graft", 0, 3), 1 << 4, "loadings", 3);
        Edges.still("promise 18, on the WAY as it is now", scene.then("graft", 0, 3), 0, "loadings", 1);
    }

    private static void promise18EightReadings() {
        Scene scene = withReadings(8);
        Edges.still("promise 18, eight READINGS", scene, 1 << 3, "loadings", 0);
        Edges.still("promise 18, eight READINGS", scene, 1 << 9, "loadings", 5);
        Edges.still("promise 18, eight READINGS", scene, 1023, "loadings", 1);
        Scene last = withReadings(7).then("reading", 1, 1, 200);
        Edges.still("promise 18, the eighth counts, too", last, 0, "loadings", 0);
        Edges.still("promise 18, the first counts, too", TWO.then("reading", 1, 1, 200).then("reading", 0, 0, 1), 0,
            "loadings", 0);
    }

    // Promise 19: kinds

    private static void promise19NoSuchPost() {
        noSuchPost(19, "kinds", 7);
    }

    private static void promise19WithoutReadings() {
        for (int p = 0; p < 7; p++) {
            Edges.still("promise 19, without READINGS all can be", BUSY.then("back", 2), 7, "kinds", p);
        }
    }

    /** WORTH by kind: 0 1 0 of LOAD 0, 1 2 2 of LOAD 1, 9 10 18 of LOAD 9. */
    private static void promise19KindsAre0To2() {
        int[][] cases = {
            {0, 0, 5}, {0, 1, 2}, {0, 2, 0}, {1, 0, 0}, {1, 1, 1}, {1, 2, 6}, {1, 3, 0}, {9, 8, 0}, {9, 9, 1},
            {9, 10, 2}, {9, 11, 0}, {9, 17, 0}, {9, 18, 4}, {9, 19, 0}, {9, 200, 0}
        };
        for (int[] c : cases) {
            for (int p = 0; p < 3; p++) {
                Scene scene = KINDS.then("load", p, c[0]).then("reading", p, p, c[1]);
                Edges.still("promise 19, KINDS of LOAD " + c[0] + " by " + c[1], scene, c[2], "kinds", p);
            }
        }
    }

    private static void promise19OnAWay() {
        String s = "promise 19, WORTH of all POSTS on the WAY";
        // 1-0-2 has 4 and 3 and 6; 0 could be 3, 4 or 6.
        int[][] cases = {{12, 0}, {13, 1}, {14, 2}, {15, 0}, {16, 4}, {17, 0}, {9, 0}};
        for (int[] c : cases) {
            Edges.still(s, KINDS.then("reading", 1, 2, c[0]), c[1], "kinds", 0);
            Edges.still(s, KINDS.then("reading", 2, 1, c[0]), c[1], "kinds", 0);
        }
    }

    private static void promise19AllReadings() {
        String s = "promise 19, by which all READINGS are so";
        Edges.still(s + ": one that is so without it", KINDS.then("reading", 1, 1, 4), 7, "kinds", 0);
        Edges.still(s + ": one that is not so without it", KINDS.then("reading", 1, 1, 5), 0, "kinds", 0);
        Scene two = KINDS.then("reading", 0, 1, 8).then("reading", 0, 0, 4);
        Edges.still(s, two, 2, "kinds", 0);
        Edges.still(s + ", no other alone", two, 0, "kinds", 1);
        Edges.still(s + ": unlike ones", KINDS.then("reading", 0, 1, 8).then("reading", 0, 0, 3), 0, "kinds", 0);
    }

    private static void promise19OnTheWayAsItIsNow() {
        Scene scene = PATH.then("reading", 0, 7, 9);
        Edges.still("promise 19, on the WAY", scene, 6, "kinds", 3);
        Edges.still("promise 19, on the WAY as it is now", scene.then("graft", 0, 3), 0, "kinds", 3);
        Edges.still("promise 19, after load()", scene.then("load", 1, 2), 1, "kinds", 3);
    }

    // Promise 20: odds

    private static void odds(String sentence, Scene scene, int d, long upper, long lower) {
        Edges.still("promise 20, " + sentence, scene, upper, "odds", d, 0);
        Edges.still("promise 20, " + sentence, scene, lower, "odds", d, 1);
    }

    private static void promise20DIs0To7() {
        for (int d : Edges.beside(7)) {
            Edges.still("promise 20, LOST: OUTSIDE: d (0 .. 7)", BUSY, LOST, "odds", d, 0);
            Edges.still("promise 20, LOST: OUTSIDE: d (0 .. 7)", BUSY, LOST, "odds", d, 1);
        }
        odds("d 0", BUSY, 0, 0, 1);
        odds("d 7", BUSY, 7, 1, 1);
    }

    private static void promise20WhichIs0And1() {
        for (int which : Edges.beside(1)) {
            Edges.still("promise 20, LOST: OUTSIDE: which", BUSY, LOST, "odds", 1, which);
        }
        odds("which", BUSY, 1, 2, 7);
    }

    private static void promise20ThereIsNoVine() {
        for (int which = 0; which < 2; which++) {
            Edges.still("promise 20, LOST: STATE: there is no VINE", BARE, LOST, "odds", 0, which);
            Edges.still("promise 20, LOST: STATE: there is no VINE", BARE, LOST, "odds", 7, which);
        }
        Edges.still("promise 20, LOST: OUTSIDE, STATE", BARE, LOST, "odds", 8, 2);
    }

    private static void promise20InLeastTerms() {
        long[][] busy = {{0, 1}, {2, 7}, {13, 21}, {19, 21}, {1, 1}, {1, 1}, {1, 1}, {1, 1}};
        long[][] path = {{0, 1}, {1, 4}, {13, 28}, {9, 14}, {11, 14}, {25, 28}, {27, 28}, {1, 1}};
        for (int d = 0; d < 8; d++) {
            odds("in least terms", BUSY, d, busy[d][0], busy[d][1]);
            odds("in least terms", PATH, d, path[d][0], path[d][1]);
            odds("of two POSTS", TWO, d, d == 0 ? 0 : 1, 1);
            odds("of a star", STAR, d, d == 0 ? 0 : 1, d == 1 ? 4 : 1);
        }
    }
}
