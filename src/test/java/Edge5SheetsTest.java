import java.util.Arrays;

/** The edges of section 5: SHEETS, TELLING, KNOCKING, kinds, TRACE, FAULTS, how many; promises 21 to 31. */
public final class Edge5SheetsTest {
    private static final int UNKNOWN = Edges.UNKNOWN, OUTSIDE = Edges.OUTSIDE;
    private static final int MIN = Edges.MIN, MAX = Edges.MAX;
    private static final int NULL = Edges.NULL, CAST = Edges.CAST, INDEX = Edges.INDEX, SIZE = Edges.SIZE;
    private static final Scene NEW = Scene.NEW, BARE = Scene.BARE, BUSY = Scene.BUSY;
    private static final Scene TWO = Scene.vine(Scene.TWO);
    private static final Scene STAR = Scene.vine(Scene.STAR);
    private static final Scene PATH = Scene.vine(Scene.PATH);
    /** Sheet 1 has six ints, sheet 3 has three. */
    private static final Scene LIKE = BUSY.cells(3, 2, 70, 71, 72);

    public static void main(String[] args) throws Exception {
        Edges.runAll(Edge5SheetsTest.class);
    }

    // Promise 21: sheet

    private static void promise21SheetsAre0To3() {
        for (int k : Edges.beside(3)) {
            Edges.still("promise 21, UNKNOWN", BUSY, UNKNOWN, "sheet", k, 0, 1);
        }
        for (int k = 0; k < 4; k++) {
            Edges.does("promise 21, a SHEET gets a new row", BUSY, 1, "sheet", k, 0, 1);
        }
    }

    private static void promise21LanesAre0To2() {
        for (int lane : Edges.beside(2)) {
            Edges.still("promise 21, OUTSIDE: lane", BUSY, OUTSIDE, "sheet", 0, lane, 1);
        }
        for (int lane = 0; lane < 3; lane++) {
            Edges.does("promise 21, a row of a LANE", BUSY, 1, "sheet", 3, lane, 1);
            Edges.still("promise 21, a row of a LANE", BUSY.then("sheet", 3, lane, 1), 0, "cell", 3, 0, lane);
        }
    }

    private static void promise21NIsAtMost60() {
        for (int lane = 0; lane < 3; lane++) {
            Edges.still("promise 21, OUTSIDE: n above 60", BUSY, OUTSIDE, "sheet", 0, lane, 61);
            Edges.still("promise 21, OUTSIDE: n above 60", BUSY, OUTSIDE, "sheet", 0, lane, MAX);
            Edges.does("promise 21, n 60", BUSY, 1, "sheet", 0, lane, 60);
            Scene sixty = BUSY.then("sheet", 0, lane, 60);
            Edges.still("promise 21, n 60", sixty, 0, "cell", 0, 59, lane);
            Edges.lostCell("promise 21, n 60", sixty, 3, 0, 60, lane);
            Edges.does("promise 21, n 60", sixty, 1, "put", 0, 59, 1);
            Edges.still("promise 21, n 60", sixty, INDEX, "put", 0, 60, 1);
        }
    }

    private static void promise21NBelow0IsASize() {
        for (int lane = 0; lane < 3; lane++) {
            Edges.still("promise 21, SIZE", BUSY, SIZE, "sheet", 0, lane, -1);
            Edges.still("promise 21, SIZE", BUSY, SIZE, "sheet", 3, lane, MIN);
            Edges.does("promise 21, n 0", BUSY, 1, "sheet", 0, lane, 0);
            Edges.lostCell("promise 21, n 0", BUSY.then("sheet", 0, lane, 0), 3, 0, 0, lane);
        }
    }

    private static void promise21ARowOfNoCellsIsNotNothing() {
        Scene empty = NEW.then("sheet", 0, 1, 0);
        Edges.lostCell("promise 21, a row of 0 numbers is of its LANE", empty, 2, 0, 0, 0);
        Edges.does("promise 21, a row of 0 numbers is something", empty, 1, "lose", 0);
    }

    private static void promise21NumbersAre0AtFirst() {
        Scene full = NEW.cells(0, 2, 7, 8, 9);
        String s = "promise 21, (0 at first)";
        for (int i = 0; i < 3; i++) {
            Edges.still(s, full.then("sheet", 0, 2, 3), 0, "cell", 0, i, 2);
            Edges.still(s, full.then("sheet", 0, 2, 0).then("sheet", 0, 2, 3), 0, "cell", 0, i, 2);
            Edges.still(s, full.then("lose", 0).then("sheet", 0, 2, 3), 0, "cell", 0, i, 2);
            Edges.still(s, full.then("sheet", 0, 0, 3), 0, "cell", 0, i, 0);
        }
        Edges.lostCell("promise 21, a shorter row", full.then("sheet", 0, 2, 2), 3, 0, 2, 2);
        Edges.lostCell("promise 21, of another LANE then", full.then("sheet", 0, 1, 3), 2, 0, 0, 2);
    }

    private static void promise21Order() {
        Edges.still("promise 21, order: UNKNOWN, OUTSIDE", BUSY, UNKNOWN, "sheet", 4, 3, 1);
        Edges.still("promise 21, order: UNKNOWN, OUTSIDE", BUSY, UNKNOWN, "sheet", -1, 0, 61);
        Edges.still("promise 21, order: UNKNOWN, SIZE", BUSY, UNKNOWN, "sheet", 4, 0, -1);
        Edges.still("promise 21, order: OUTSIDE, SIZE", BUSY, OUTSIDE, "sheet", 0, 3, -1);
        Edges.still("promise 21, order: OUTSIDE, SIZE", BUSY, OUTSIDE, "sheet", 0, -1, MIN);
    }

    // Promise 22: lose

    private static void promise22SheetsAre0To3() {
        for (int k : Edges.beside(3)) {
            Edges.still("promise 22, UNKNOWN", BUSY, UNKNOWN, "lose", k);
        }
        for (int k = 0; k < 3; k++) {
            Edges.does("promise 22, 1", BUSY, 1, "lose", k);
        }
    }

    private static void promise22ItHadNothing() {
        Edges.still("promise 22, 0: it had nothing", BUSY, 0, "lose", 3);
        for (int k = 0; k < 4; k++) {
            Edges.still("promise 22, 0: it had nothing", BUSY.then("lose", k), 0, "lose", k);
            Edges.does("promise 22, it got a row", BUSY.then("lose", k).then("sheet", k, 0, 0), 1, "lose", k);
        }
    }

    private static void promise22ASheetHasNothing() {
        Scene lost = BUSY.then("lose", 0);
        Edges.lostCell("promise 22, has nothing", lost, 1, 0, 0, 0);
        Edges.still("promise 22, has nothing", lost, NULL, "put", 0, 0, 0);
        Edges.still("promise 22, the VINE stays", lost, 7, "many", 0);
        Edges.still("promise 22, other SHEETS stay", lost, 13, "cell", 1, 3, 2);
    }

    // Promise 23: put

    private static void promise23SheetsAre0To3() {
        for (int k : Edges.beside(3)) {
            Edges.still("promise 23, UNKNOWN", BUSY, UNKNOWN, "put", k, 0, 1);
        }
        for (int k = 0; k < 4; k++) {
            Edges.does("promise 23, 1", BUSY.then("sheet", k, 0, 1), 1, "put", k, 0, 1);
        }
    }

    private static void promise23ThereIsNothing() {
        Edges.still("promise 23, NULL", BUSY, NULL, "put", 3, 0, 1);
        Edges.still("promise 23, NULL", BUSY.then("lose", 1), NULL, "put", 1, 0, 1);
    }

    private static void promise23CellsAreThere() {
        String s = "promise 23, INDEX";
        for (int i : Edges.beside(5)) {
            Edges.still(s, BUSY, INDEX, "put", 1, i, 77);
        }
        Edges.does(s, BUSY, 1, "put", 1, 0, 77);
        Edges.does(s, BUSY, 1, "put", 1, 5, 77);
        for (int i : new int[] {-1, 0, 1, MIN, MAX}) {
            Edges.still(s + " of none", BUSY.cells(3, 2), INDEX, "put", 3, i, 77);
        }
        Scene sixty = BUSY.then("sheet", 3, 2, 60);
        Edges.does(s, sixty, 1, "put", 3, 59, 77);
        Edges.still(s, sixty.then("put", 3, 59, 77), 77, "cell", 3, 59, 2);
        Edges.still(s, sixty, INDEX, "put", 3, 60, 77);
    }

    private static void promise23Order() {
        Edges.still("promise 23, order: UNKNOWN, NULL", BUSY, UNKNOWN, "put", 4, -1, 0);
        Edges.still("promise 23, order: NULL, INDEX", BUSY, NULL, "put", 3, -1, 0);
        Edges.still("promise 23, order: NULL, INDEX", BUSY, NULL, "put", 3, 60, 0);
    }

    private static void cut(int lane, int v, int want) {
        Edges.still("promise 23, cut to LANE " + lane, NEW.cells(0, lane, 1, v, 1), want, "cell", 0, 1, lane);
        Edges.still("promise 23, no other cell", NEW.cells(0, lane, 1, v, 1), 1, "cell", 0, 0, lane);
        Edges.still("promise 23, no other cell", NEW.cells(0, lane, 1, v, 1), 1, "cell", 0, 2, lane);
    }

    private static void promise23CutToBytes() {
        int[][] cases = {
            {127, 127}, {128, -128}, {-128, -128}, {-129, 127}, {255, -1}, {256, 0}, {-1, -1}, {-256, 0},
            {32767, -1}, {32768, 0}, {MAX, -1}, {MIN, 0}, {MIN + 127, 127}
        };
        for (int[] c : cases) {
            cut(0, c[0], c[1]);
        }
    }

    private static void promise23CutToShorts() {
        int[][] cases = {
            {127, 127}, {128, 128}, {255, 255}, {32767, 32767}, {32768, -32768}, {-32768, -32768}, {-32769, 32767},
            {65535, -1}, {65536, 0}, {-1, -1}, {-65536, 0}, {MAX, -1}, {MIN, 0}, {MIN + 32767, 32767}
        };
        for (int[] c : cases) {
            cut(1, c[0], c[1]);
        }
    }

    private static void promise23IntsAreWhole() {
        for (int v : new int[] {0, -1, 128, 32768, 65536, MAX, MIN, MAX - 1, MIN + 1}) {
            cut(2, v, v);
        }
    }

    // Promise 24: cell

    private static void promise24SheetsAre0To3() {
        for (int k : Edges.beside(3)) {
            Edges.lostCell("promise 24, LOST: UNKNOWN", BUSY, 0, k, 0, 0);
        }
        for (int k = 0; k < 4; k++) {
            Edges.still("promise 24, a SHEET", BUSY.cells(k, 1, 70 + k), 70 + k, "cell", k, 0, 1);
        }
    }

    private static void promise24LanesAre0To2() {
        for (int lane : Edges.beside(2)) {
            Edges.lostCell("promise 24, LOST: OUTSIDE: lane", BUSY, 0, 0, 0, lane);
        }
    }

    private static void promise24AnotherLaneIsACast() {
        for (int has = 0; has < 3; has++) {
            for (int lane = 0; lane < 3; lane++) {
                Scene scene = BUSY.cells(3, has, 5);
                if (has == lane) {
                    Edges.still("promise 24, of its LANE", scene, 5, "cell", 3, 0, lane);
                } else {
                    Edges.lostCell("promise 24, LOST: CAST", scene, 2, 3, 0, lane);
                }
            }
        }
    }

    private static void promise24NothingIsNoCast() {
        for (int lane = 0; lane < 3; lane++) {
            Edges.lostCell("promise 24, nothing is no CAST: NULL", BUSY, 1, 3, 0, lane);
            Edges.lostCell("promise 24, nothing is no CAST: NULL", BUSY.then("lose", 0), 1, 0, 0, lane);
        }
    }

    private static void promise24CellsAreThere() {
        for (int i : Edges.beside(5)) {
            Edges.lostCell("promise 24, LOST: INDEX", BUSY, 3, 1, i, 2);
        }
        Edges.still("promise 24, the first", BUSY, 0, "cell", 1, 0, 2);
        Edges.still("promise 24, the last", BUSY, 1, "cell", 1, 5, 2);
        for (int i : new int[] {-1, 0, 1, MIN, MAX}) {
            Edges.lostCell("promise 24, LOST: INDEX of none", BUSY.cells(3, 0), 3, 3, i, 0);
        }
    }

    private static void promise24Order() {
        Edges.lostCell("promise 24, order: UNKNOWN, OUTSIDE", BUSY, 0, 4, 0, 3);
        Edges.lostCell("promise 24, order: UNKNOWN, INDEX", BUSY, 0, -1, -1, 0);
        Edges.lostCell("promise 24, order: OUTSIDE, NULL", BUSY, 0, 3, 0, 3);
        Edges.lostCell("promise 24, order: OUTSIDE, INDEX", BUSY, 0, 1, 6, -1);
        Edges.lostCell("promise 24, order: CAST, INDEX", BUSY, 2, 1, 6, 1);
        Edges.lostCell("promise 24, order: NULL, INDEX", BUSY, 1, 3, -1, 1);
    }

    // Promise 25: copy

    private static void promise25SheetsAre0To3() {
        for (int k : Edges.beside(3)) {
            Edges.still("promise 25, UNKNOWN", BUSY, UNKNOWN, "copy", k, 0, 1, 0, 1);
            Edges.still("promise 25, UNKNOWN", BUSY, UNKNOWN, "copy", 1, 0, k, 0, 1);
            Edges.still("promise 25, UNKNOWN", BUSY, UNKNOWN, "copy", k, 0, k, 0, 1);
        }
        Scene alike = BUSY.cells(0, 2, 1).cells(3, 2, 2);
        Edges.does("promise 25, 0 to 3", alike, 1, "copy", 0, 0, 3, 0, 1);
        Edges.does("promise 25, 3 to 0", alike, 1, "copy", 3, 0, 0, 0, 1);
    }

    private static void promise25ThereIsNothing() {
        Edges.still("promise 25, NULL (the first)", BUSY, NULL, "copy", 3, 0, 1, 0, 1);
        Edges.still("promise 25, NULL (the other)", BUSY, NULL, "copy", 1, 0, 3, 0, 1);
        Edges.still("promise 25, NULL (both)", BUSY, NULL, "copy", 3, 0, 3, 0, 1);
        Edges.still("promise 25, NULL, of no cells", BUSY, NULL, "copy", 3, 0, 1, 0, 0);
        Edges.still("promise 25, NULL, of no cells", BUSY, NULL, "copy", 1, 0, 3, 0, 0);
    }

    private static void promise25UnlikeLanes() {
        for (int one = 0; one < 3; one++) {
            for (int two = 0; two < 3; two++) {
                Scene scene = BUSY.cells(0, one, 1).cells(3, two, 2);
                if (one == two) {
                    Edges.does("promise 25, like LANES", scene, 1, "copy", 0, 0, 3, 0, 1);
                } else {
                    Edges.still("promise 25, CAST (unlike LANES)", scene, CAST, "copy", 0, 0, 3, 0, 1);
                    Edges.still("promise 25, CAST, of no cells", scene, CAST, "copy", 0, 0, 3, 0, 0);
                }
            }
        }
    }

    private static void promise25CellsThatGo() {
        String s = "promise 25, INDEX: i below 0 or beyond";
        Edges.does(s, LIKE, 1, "copy", 1, 5, 3, 0, 1);
        Edges.still(s, LIKE, INDEX, "copy", 1, 6, 3, 0, 1);
        Edges.still(s, LIKE, INDEX, "copy", 1, 5, 3, 0, 2);
        Edges.does(s, LIKE, 3, "copy", 1, 3, 3, 0, 3);
        Edges.still(s, LIKE, INDEX, "copy", 1, 4, 3, 0, 3);
        Edges.still(s, LIKE, INDEX, "copy", 1, -1, 3, 0, 1);
        Edges.still(s, LIKE, INDEX, "copy", 1, MIN, 3, 0, 1);
        Edges.still(s, LIKE, INDEX, "copy", 1, MAX, 3, 0, 1);
    }

    private static void promise25WhereTheyGo() {
        String s = "promise 25, INDEX: j below 0 or beyond";
        Edges.does(s, LIKE, 1, "copy", 1, 0, 3, 2, 1);
        Edges.still(s, LIKE, INDEX, "copy", 1, 0, 3, 3, 1);
        Edges.still(s, LIKE, INDEX, "copy", 1, 0, 3, 2, 2);
        Edges.still(s, LIKE, INDEX, "copy", 1, 0, 3, 0, 4);
        Edges.still(s, LIKE, INDEX, "copy", 1, 0, 3, -1, 1);
        Edges.still(s, LIKE, INDEX, "copy", 1, 0, 3, MIN, 1);
        Edges.still(s, LIKE, INDEX, "copy", 1, 0, 3, MAX, 1);
    }

    private static void promise25NBelow0OrBeyond() {
        String s = "promise 25, INDEX: n below 0 or beyond";
        Edges.still(s, LIKE, INDEX, "copy", 1, 0, 3, 0, -1);
        Edges.still(s, LIKE, INDEX, "copy", 1, 3, 3, 3, -1);
        Edges.still(s, LIKE, INDEX, "copy", 1, 0, 3, 0, MIN);
        Edges.still(s, LIKE, INDEX, "copy", 1, 0, 3, 0, MAX);
        Edges.still(s, LIKE, INDEX, "copy", 1, 1, 3, 1, MAX);
        Edges.still(s, LIKE, INDEX, "copy", 1, MAX, 3, MAX, MAX);
        Edges.still(s, LIKE, INDEX, "copy", 1, MIN, 3, MIN, MIN);
        Edges.still(s, LIKE, 0, "copy", 1, 0, 3, 0, 0);
        Edges.does(s, LIKE, 3, "copy", 1, 0, 3, 0, 3);
        Edges.does(s, LIKE, 3, "copy", 3, 0, 1, 3, 3);
    }

    private static void promise25IndexIfNoneIsTaken() {
        String s = "promise 25, INDEX where i is not 0 .. how many there are, if none of them is taken, too";
        Edges.still(s, LIKE, 0, "copy", 1, 6, 3, 3, 0);
        for (int i : Edges.beside(6)) {
            Edges.still(s, LIKE, INDEX, "copy", 1, i, 3, 0, 0);
        }
        for (int j : Edges.beside(3)) {
            Edges.still(s, LIKE, INDEX, "copy", 1, 0, 3, j, 0);
        }
        Scene empty = BUSY.cells(3, 2);
        Edges.still(s, empty, 0, "copy", 3, 0, 3, 0, 0);
        Edges.still(s, empty, INDEX, "copy", 3, 1, 3, 0, 0);
        Edges.still(s, empty, INDEX, "copy", 3, 0, 3, 1, 0);
        Edges.still(s, empty, INDEX, "copy", 3, 0, 1, 0, 1);
        Edges.still(s, empty, INDEX, "copy", 1, 0, 3, 0, 1);
    }

    private static void promise25Order() {
        Edges.still("promise 25, order: UNKNOWN, NULL", BUSY, UNKNOWN, "copy", 3, 0, 4, 0, 0);
        Edges.still("promise 25, order: UNKNOWN, INDEX", BUSY, UNKNOWN, "copy", -1, -1, 0, 0, 0);
        Edges.still("promise 25, order: NULL, INDEX", BUSY, NULL, "copy", 3, -1, 1, 0, 0);
        Edges.still("promise 25, order: NULL, INDEX", BUSY, NULL, "copy", 1, -1, 3, 0, -1);
        Edges.still("promise 25, order: CAST, INDEX", BUSY, CAST, "copy", 1, -1, 0, 0, 0);
        Edges.still("promise 25, order: CAST, INDEX", BUSY, CAST, "copy", 1, 0, 2, 0, -1);
    }

    private static void copied(int from, int to, int n, long... want) {
        Scene scene = NEW.cells(0, 1, 1, 2, 3, 4, 5).then("copy", 0, from, 0, to, n);
        for (int i = 0; i < want.length; i++) {
            Edges.still("promise 25, (perhaps the same), as they were", scene, want[i], "cell", 0, i, 1);
        }
    }

    private static void promise25ToTheSame() {
        copied(0, 1, 4, 1, 1, 2, 3, 4);
        copied(1, 0, 4, 2, 3, 4, 5, 5);
        copied(0, 0, 5, 1, 2, 3, 4, 5);
        copied(0, 3, 2, 1, 2, 3, 1, 2);
        copied(0, 2, 3, 1, 2, 1, 2, 3);
        copied(0, 1, 5, 1, 2, 3, 4, 5);
        copied(2, 4, 1, 1, 2, 3, 4, 3);
    }

    private static void promise25AllSixty() {
        int[] sixty = new int[60];
        for (int i = 0; i < 60; i++) {
            sixty[i] = i + 1;
        }
        Scene scene = NEW.cells(0, 0, sixty).then("sheet", 1, 0, 60);
        Edges.does("promise 25, all sixty", scene, 60, "copy", 0, 0, 1, 0, 60);
        Edges.still("promise 25, all sixty", scene.then("copy", 0, 0, 1, 0, 60), 60, "cell", 1, 59, 0);
        Edges.still("promise 25, sixty and one", scene, INDEX, "copy", 0, 0, 1, 0, 61);
        Edges.still("promise 25, sixty, one farther", scene, INDEX, "copy", 0, 0, 1, 1, 60);
    }

    // Promises 26, 27 and 29: tell, knock, trace

    private static void noSuchPost(int promise, String call) {
        String s = "promise " + promise + ", UNKNOWN";
        for (int p : Edges.beside(6)) {
            Edges.still(s, BUSY, UNKNOWN, call, p);
        }
        Edges.still(s, BARE, UNKNOWN, call, 0);
        for (int n = 2; n <= 8; n++) {
            Edges.still(s, Scene.vine(Edges.textOf(n)), UNKNOWN, call, n);
        }
        Edges.does(s, BUSY, call.equals("tell") ? 3 : 1, call, 0);
        Edges.does(s, BUSY, call.equals("tell") ? 104 : 80, call, 6);
    }

    private static void promise26NoSuchPost() {
        noSuchPost(26, "tell");
    }

    private static void promise27NoSuchPost() {
        noSuchPost(27, "knock");
    }

    private static void promise26TellingOfEachKind() {
        Scene least = Scene.vine("v30p0b0d0");
        Scene most = Scene.vine("v30p9b9d9");
        int[] told = {0, 100, 100};
        int[] toldMost = {9, 109, 118};
        int[] trace = {1, 63, ((3 * 31 + 2) * 31 + 1) * 31 + 1};
        for (int p = 0; p < 3; p++) {
            Edges.does("promise 26, TELLING with LOAD 0", least, told[p], "tell", p);
            Edges.does("promise 26, TELLING with LOAD 9", most, toldMost[p], "tell", p);
            Edges.still("promise 26, TRACE of it", least.then("tell", p), trace[p], "trace");
        }
        Edges.does("promise 26, after load()", most.then("load", 2, 1), 102, "tell", 2);
    }

    private static void promise27KnockedByALentBody() {
        for (int p = 0; p < 8; p++) {
            boolean own = p == 2 || p == 5;
            Edges.does("promise 27, how many TWIGS; DOUBLE ones 80", STAR, own ? 80 : p == 0 ? 7 : 1, "knock", p);
            Edges.still("promise 27, TRACE of it", STAR.then("knock", p), own ? 5 : 4, "trace");
        }
        Scene after = STAR.then("graft", 7, 6);
        Edges.does("promise 27, after graft()", after, 2, "knock", 6);
        Edges.does("promise 27, after graft()", after, 6, "knock", 0);
    }

    private static void promise29TraceIsNotLeftByOthers() {
        long trace = BUSY.on(new Run()).call("trace");
        Checks.due("promise 29, TRACE of one BROAD", trace, 63);
        String s = "promise 29, TRACE is left by tell() and knock() alone";
        Edges.still(s, BUSY.then("tell", 7).then("knock", -1), 63, "trace");
        Edges.still(s, BUSY.then("as", 2, 2).then("ofPost", 2, 2).then("kinds", 2), 63, "trace");
        Edges.still(s + ", a new TEXT makes no TELLING", BUSY.then("vine", 0, 0, 0, 21), 63, "trace");
        Edges.still(s + ", a day tells none", BUSY.then("day", 1, 2, 0, 3, 0), 63, "trace");
    }

    private static void promise29TraceWraps() {
        Scene scene = Scene.vine("v2d0p0");
        long whole = 0;
        for (int k = 1; k <= 12; k++) {
            scene = scene.then("knock", 0);
            whole = (int) (31 * whole + 5);
            Edges.still("promise 29, (an int that wraps)", scene, whole, "trace");
        }
        Scene six = Scene.vine("v2d0p0");
        for (int k = 0; k < 6; k++) {
            six = six.then("knock", 0);
        }
        // 5 * (31 ^ 6 - 1) / 30 is still below 2 ^ 31; once more is beyond.
        Edges.still("promise 29, the last that does not wrap", six, 147917280, "trace");
        Edges.still("promise 29, the first that wraps", six.then("knock", 0), 147917280L * 31 + 5 - (1L << 32), "trace");
    }

    // Promise 28: as

    private static void promise28NoSuchPost() {
        for (int p : Edges.beside(6)) {
            Edges.still("promise 28, UNKNOWN", BUSY, UNKNOWN, "as", p, 0);
        }
        Edges.still("promise 28, UNKNOWN", BARE, UNKNOWN, "as", 0, 0);
        Edges.still("promise 28, the last POST", BUSY, 1, "as", 6, 0);
    }

    private static void promise28KindsAre0To2() {
        for (int kind : Edges.beside(2)) {
            for (int p = 0; p < 3; p++) {
                Edges.still("promise 28, OUTSIDE", BUSY, OUTSIDE, "as", p, kind);
            }
        }
    }

    private static void promise28ItIsNone() {
        int[][] want = {{1, CAST, CAST}, {1, 1, CAST}, {1, 1, 1}};
        for (int p = 0; p < 3; p++) {
            for (int kind = 0; kind < 3; kind++) {
                Edges.still("promise 28, CAST: it is none", BUSY, want[p][kind], "as", p, kind);
            }
        }
    }

    private static void promise28Order() {
        Edges.still("promise 28, order: UNKNOWN, OUTSIDE", BUSY, UNKNOWN, "as", 7, 3);
        Edges.still("promise 28, order: UNKNOWN, OUTSIDE", BARE, UNKNOWN, "as", 0, -1);
        Edges.still("promise 28, order: OUTSIDE, CAST", BUSY, OUTSIDE, "as", 0, 3);
    }

    // Promise 30: fault

    /** Behind each of these, of calls that name FAULTS, fault() is 0, whatever it was. */
    private static void promise30ItCameToNone() {
        Scene none = BUSY.cells(3, 2, 0, 0).then("as", 0, 1);
        Edges.still("promise 30, a FAULT ahead", none, 2, "fault");
        String s = "promise 30, 0: it came to none: ";
        Edges.still(s + "vine", none.then("vine", 0, 0, 0, 21), 0, "fault");
        Edges.still(s + "vine, a wrong TEXT", none.then("vine", 0, 0, 0, 20), 0, "fault");
        Edges.still(s + "day", none.then("day", 1, 2, 0, 3, 0), 0, "fault");
        Edges.still(s + "day, FIRST WRONG", none.then("day", 3, 2, 0, 1, 0), 0, "fault");
        Edges.still(s + "sheet", none.then("sheet", 0, 0, 0), 0, "fault");
        Edges.still(s + "put", none.then("put", 0, 0, 0), 0, "fault");
        Edges.still(s + "cell", none.then("cell", 0, 0, 0), 0, "fault");
        Edges.still(s + "copy", none.then("copy", 1, 0, 3, 0, 2), 0, "fault");
        Edges.still(s + "as", none.then("as", 2, 2), 0, "fault");
    }

    private static void promise30OrWasRefused() {
        String s = "promise 30, 0: it was refused: ";
        Edges.still(s + "vine", BUSY.then("vine", 4, 0, 0, 21), 0, "fault");
        Edges.still(s + "vine", BUSY.then("vine", 0, 3, 0, 21), 0, "fault");
        Edges.still(s + "day", BUSY.then("day", 4, 0, 0, 0, 0), 0, "fault");
        Edges.still(s + "day", BUSY.then("day", 1, 2, 0, 21, 0), 0, "fault");
        Edges.still(s + "day, STATE", BARE.then("day", 1, 2, 0, 1, 0), 0, "fault");
        Edges.still(s + "day, a pair", BUSY.cells(3, 2, 0, 8).then("as", 0, 1).then("day", 3, 2, 0, 1, 0), 0, "fault");
        Edges.still(s + "day, a pair", BUSY.cells(3, 2, 7, 0).then("as", 0, 1).then("day", 3, 2, 0, 1, 0), 0, "fault");
        Edges.still(s + "sheet", BUSY.then("sheet", 4, 0, 0), 0, "fault");
        Edges.still(s + "sheet", BUSY.then("sheet", 0, 0, 61), 0, "fault");
        Edges.still(s + "put", BUSY.then("put", 4, 0, 0), 0, "fault");
        Edges.still(s + "cell", BUSY.then("cell", 4, 0, 0), 0, "fault");
        Edges.still(s + "cell", BUSY.then("cell", 0, 0, 3), 0, "fault");
        Edges.still(s + "copy", BUSY.then("copy", 4, 0, 0, 0, 0), 0, "fault");
        Edges.still(s + "as", BUSY.then("as", 7, 0), 0, "fault");
        Edges.still(s + "as", BUSY.then("as", 0, 3), 0, "fault");
    }

    private static void promise30EachFault() {
        Scene clean = BUSY.then("as", 0, 0);
        Edges.still("promise 30, none", clean, 0, "fault");
        int[] numbers = {1, 2, 3, 4};
        Scene[] vine = {
            clean.then("vine", 3, 0, 0, 0), clean.then("vine", 0, 1, 0, 0), clean.then("vine", 0, 0, 22, 0),
            clean.then("vine", 0, 0, 0, -1)
        };
        for (int k = 0; k < 4; k++) {
            Edges.still("promise 30, FAULT of vine", vine[k], numbers[k], "fault");
        }
        Edges.still("promise 30, FAULT of day", clean.then("day", 3, 0, 0, 0, 0), 1, "fault");
        Edges.still("promise 30, FAULT of day", clean.then("day", 1, 0, 0, 0, 0), 2, "fault");
        Edges.still("promise 30, FAULT of day", clean.then("day", 1, 2, 7, 0, 0), 3, "fault");
        Edges.still("promise 30, FAULT of sheet", clean.then("sheet", 0, 0, -1), 4, "fault");
        Edges.still("promise 30, FAULT of put", clean.then("put", 3, 0, 0), 1, "fault");
        Edges.still("promise 30, FAULT of put", clean.then("put", 0, 21, 0), 3, "fault");
        Edges.still("promise 30, FAULT of cell", clean.then("cell", 3, 0, 0), 1, "fault");
        Edges.still("promise 30, FAULT of cell", clean.then("cell", 0, 0, 1), 2, "fault");
        Edges.still("promise 30, FAULT of cell", clean.then("cell", 0, 21, 0), 3, "fault");
        Edges.still("promise 30, FAULT of copy", clean.then("copy", 3, 0, 0, 0, 0), 1, "fault");
        Edges.still("promise 30, FAULT of copy", clean.then("copy", 0, 0, 1, 0, 0), 2, "fault");
        Edges.still("promise 30, FAULT of copy", clean.then("copy", 0, 0, 0, 0, 22), 3, "fault");
        Edges.still("promise 30, FAULT of as", clean.then("as", 0, 2), 2, "fault");
        Edges.still("promise 30, the latest of several", vine[3].then("as", 0, 2), 2, "fault");
    }

    /** A call that names no FAULTS leaves fault(), whether it is refused or not. */
    private static void promise30OtherCallsLeaveIt() {
        for (int k = 0; k < Calls.NAMES.length; k++) {
            String name = Calls.NAMES[k];
            if (!Calls.namesFaults(name)) {
                int[] good = new int[Calls.COUNTS[k]];
                int[] bad = new int[Calls.COUNTS[k]];
                Arrays.fill(bad, 99);
                if (name.equals("graft") || name.equals("part")) {
                    good[1] = 5;
                }
                String s = "promise 30, the latest call that names one: " + name;
                Edges.still(s, BUSY.then(name, good), 2, "fault");
                Edges.still(s, BUSY.then(name, bad), 2, "fault");
            }
        }
        Edges.still("promise 30, STATE leaves it", BARE.then("row", 0), 1, "fault");
        Edges.still("promise 30, STATE leaves it", BUSY.then("graft", 3, 0), 2, "fault");
    }

    // Promise 31: many

    private static void promise31WhatIs0To3() {
        for (int what : Edges.beside(3)) {
            Edges.still("promise 31, OUTSIDE", BUSY, OUTSIDE, "many", what);
            Edges.still("promise 31, OUTSIDE", BARE, OUTSIDE, "many", what);
        }
        int[] want = {7, 1, 4, 2};
        for (int what = 0; what < 4; what++) {
            Edges.still("promise 31, how many", BUSY, want[what], "many", what);
        }
    }

    private static void promise31WithoutAVine() {
        for (int what = 0; what < 4; what++) {
            Edges.still("promise 31, 0 all without a VINE", BARE, 0, "many", what);
        }
    }

    private static void promise31Posts() {
        for (int n = 2; n <= 8; n++) {
            Edges.still("promise 31, POSTS", Scene.vine(Edges.textOf(n)), n, "many", 0);
        }
    }

    private static void promise31GraftsByGraft() {
        String s = "promise 31, GRAFTS (by graft())";
        Edges.still(s + ", not by a day", BUSY.then("day", 1, 2, 0, 3, 0), 1, "many", 1);
        Edges.still(s + ", not by one that is refused", BUSY.then("graft", 3, 0).then("graft", 7, 0), 1, "many", 1);
        Scene many = TWO;
        for (int k = 0; k < 100; k++) {
            many = many.then("graft", k % 2, 1 - k % 2);
        }
        Edges.still(s + ", a hundred", many, 100, "many", 1);
    }

    private static void promise31PostsWithOneTwig() {
        String s = "promise 31, POSTS with one TWIG";
        Edges.still(s, TWO, 2, "many", 2);
        Edges.still(s, PATH, 2, "many", 2);
        Edges.still(s, STAR, 7, "many", 2);
        Edges.still(s, STAR.then("graft", 7, 6), 6, "many", 2);
        Edges.still(s, PATH.then("graft", 0, 3), 3, "many", 2);
    }

    private static void promise31Readings() {
        Scene scene = BUSY;
        for (int count = 2; count <= 8; count++) {
            Edges.still("promise 31, READINGS", scene, count, "many", 3);
            scene = scene.then("reading", 0, 0, 200);
        }
        Edges.still("promise 31, READINGS, one too many", scene, 8, "many", 3);
        Edges.still("promise 31, READINGS, taken back", scene.then("back", 8), 0, "many", 3);
    }
}
