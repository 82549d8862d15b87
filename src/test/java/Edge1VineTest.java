/** The edges of section 1: a new object, the TEXT, what is asked of a POST, the ROW; promises 1 to 5. */
public final class Edge1VineTest {
    private static final int UNKNOWN = Edges.UNKNOWN, OUTSIDE = Edges.OUTSIDE, STATE = Edges.STATE;
    private static final int NONE = Edges.NONE, MIN = Edges.MIN, MAX = Edges.MAX;
    private static final int NULL = Edges.NULL, CAST = Edges.CAST, INDEX = Edges.INDEX, SIZE = Edges.SIZE;
    private static final Scene NEW = Scene.NEW, BARE = Scene.BARE, BUSY = Scene.BUSY;
    private static final Scene TWO = Scene.vine(Scene.TWO);
    private static final Scene STAR = Scene.vine(Scene.STAR);
    private static final Scene PATH = Scene.vine(Scene.PATH);

    public static void main(String[] args) throws Exception {
        Edges.runAll(Edge1VineTest.class);
    }

    // Promise 1: a new object

    private static void promise1ThereIsNoVine() {
        String s = "promise 1, No VINE";
        String[] calls = {"number", "alike", "pairs"};
        for (String call : calls) {
            Edges.still(s, NEW, STATE, call);
        }
        Edges.still(s, NEW, STATE, "row", 0);
        Edges.still(s, NEW, STATE, "middle", 0);
        Edges.still(s, NEW, STATE, "loners", 0);
        Edges.still(s, NEW, Edges.LOST, "odds", 0, 0);
        Edges.still(s, NEW, 0, "back", 0);
        Edges.still(s, NEW, OUTSIDE, "back", 1);
    }

    private static void promise1ThereAreNoPosts() {
        String s = "promise 1, (no POSTS)";
        for (int p = 0; p < 8; p++) {
            String[] one = {"loadings", "kinds", "tell", "knock"};
            for (String call : one) {
                Edges.still(s, NEW, UNKNOWN, call, p);
            }
            String[] two = {"ofPost", "load", "graft", "far", "part", "as"};
            for (String call : two) {
                Edges.still(s, NEW, UNKNOWN, call, p, 1);
            }
            Edges.still(s, NEW, UNKNOWN, "way", p, p, 0);
            Edges.still(s, NEW, UNKNOWN, "reading", p, p, 0);
        }
        for (int what = 0; what < 4; what++) {
            Edges.still(s, NEW, 0, "many", what);
        }
    }

    private static void promise1SheetsHaveNothing() {
        String s = "promise 1, SHEETS have nothing";
        for (int k = 0; k < 4; k++) {
            Edges.still(s, NEW, 0, "lose", k);
            Edges.still(s, NEW, NULL, "put", k, 0, 0);
            Edges.still(s, NEW, NULL, "copy", k, 0, k, 0, 0);
            for (int lane = 0; lane < 3; lane++) {
                Edges.lostCell(s, NEW, 1, k, 0, lane);
                Edges.still(s, NEW, NULL, "vine", k, lane, 0, 0);
                Edges.still(s, NEW, NULL, "day", k, lane, 0, 0, 0);
            }
        }
    }

    private static void promise1TraceAndFaultAre0AtFirst() {
        Edges.still("promise 1, TRACE is 0 at first", NEW, 0, "trace");
        Edges.still("promise 1, fault() is 0 ahead of any", NEW, 0, "fault");
    }

    private static void promise1ObjectsAreApart() {
        Run one = new Run();
        Run other = new Run();
        BUSY.on(one);
        for (int what = 0; what < 4; what++) {
            Checks.due("promise 1, another object has it: many(" + what + ")", other.call("many", what), 0);
        }
        Checks.due("promise 1, another object has it: trace()", other.call("trace"), 0);
        Checks.due("promise 1, another object has it: lose(0)", other.call("lose", 0), 0);
    }

    // Promise 2: the TEXT

    /** Nothing is changed by it: all of BUSY stands as it stood. */
    private static void wrong(String sentence, String text, int place) {
        Edges.still("promise 2, " + sentence + " [" + text + "]", BUSY.text(3, 0, text), -100 - place,
            "vine", 3, 0, 0, text.length());
    }

    private static void right(String sentence, String text) {
        Edges.does("promise 2, " + sentence + " [" + text + "]", BUSY.text(3, 0, text), text.charAt(1) - '0',
            "vine", 3, 0, 0, text.length());
    }

    private static void promise2TheFirstCodeIsV() {
        String s = "v, 118";
        right(s, Scene.TWO);
        for (int code : new int[] {117, 119, 86, 0, 1, 127, 50, 112}) {
            wrong(s, Edges.with(Scene.TWO, 0, code), 0);
        }
    }

    private static void promise2ADigit2To8() {
        String s = "a digit 2 .. 8";
        for (int n = 2; n <= 8; n++) {
            right(s, Edges.textOf(n));
        }
        for (int code : new int[] {49, 57, 48, 47, 58, 0, 127, 118, 112}) {
            wrong(s, Edges.with(Scene.TWO, 1, code), 1);
        }
    }

    private static void promise2RowDigitsAre0ToNLess1() {
        String s = "each 0 .. n less 1";
        for (int n = 3; n <= 8; n++) {
            for (int place : new int[] {2, n - 1}) {
                right(s, Edges.with(Edges.textOf(n), place, 48));
                right(s, Edges.with(Edges.textOf(n), place, 48 + n - 1));
                wrong(s, Edges.with(Edges.textOf(n), place, 48 + n), place);
                wrong(s, Edges.with(Edges.textOf(n), place, 47), place);
                wrong(s, Edges.with(Edges.textOf(n), place, 58), place);
            }
        }
    }

    private static void promise2ARowHasNLess2Digits() {
        String s = "n less 2 digits";
        for (int n = 2; n <= 8; n++) {
            String text = Edges.textOf(n);
            wrong(s + ", one more", text.substring(0, 2) + "0" + text.substring(2), n);
            if (n > 2) {
                wrong(s + ", one less", text.substring(0, 2) + text.substring(3), n - 1);
            }
        }
    }

    private static void promise2ALetterIsPOrBOrD() {
        String s = "a letter (its kind): p 112, b 98, d 100";
        for (int place : new int[] {3, 7}) {
            for (int code : new int[] {112, 98, 100}) {
                right(s, Edges.with("v30p1b2d3", place, code));
            }
            for (int code : new int[] {97, 99, 101, 111, 113, 80, 66, 68, 118, 48, 57, 0, 127}) {
                wrong(s, Edges.with("v30p1b2d3", place, code), place);
            }
        }
    }

    private static void promise2ALoadIs0To9() {
        String s = "a digit 0 .. 9 (LOAD)";
        for (int place : new int[] {4, 8}) {
            right(s, Edges.with("v30p1b2d3", place, 48));
            right(s, Edges.with("v30p1b2d3", place, 57));
            for (int code : new int[] {47, 58, 0, 127, 112}) {
                wrong(s, Edges.with("v30p1b2d3", place, code), place);
            }
        }
    }

    private static void promise2NothingBehindTheLastPost() {
        String s = "anything behind the last POST";
        for (int n = 2; n <= 8; n++) {
            for (String more : new String[] {"p", "0", "v", "p0", Scene.TWO}) {
                wrong(s, Edges.textOf(n) + more, 3 * n);
            }
        }
    }

    private static void promise2ItJustEndsTooSoon() {
        String s = "how many codes there are, if it just ends too soon";
        for (int n = 2; n <= 8; n++) {
            String text = Edges.textOf(n);
            for (int length = 0; length < text.length(); length++) {
                wrong(s, text.substring(0, length), length);
            }
        }
    }

    private static void promise2TheFirstOfSeveralFaults() {
        String s = "the first code with which no TEXT goes on";
        wrong(s, "x9", 0);
        wrong(s, "v9x", 1);
        wrong(s, "v338p1", 2);
        wrong(s + ", though it ends too soon, too", "v30p1x", 5);
        wrong(s + ", though there is something behind", "v30p1b2x3p", 7);
    }

    private static void promise2CodesAreNotCutWhenTheyAreRead() {
        String s = "promise 2, a code is the cell as it is: ";
        int[] codes = Scene.TWO.chars().toArray();
        int[] more = codes.clone();
        for (int i = 0; i < codes.length; i++) {
            more[i] = codes[i] + 256;
        }
        Edges.does(s + "bytes were cut by put()", BUSY.cells(3, 0, more), 2, "vine", 3, 0, 0, 6);
        Edges.still(s + "shorts", BUSY.cells(3, 1, more), -100, "vine", 3, 1, 0, 6);
        Edges.still(s + "ints", BUSY.cells(3, 2, more), -100, "vine", 3, 2, 0, 6);
        for (int i = 0; i < codes.length; i++) {
            int[] one = codes.clone();
            one[i] = codes[i] + 65536;
            Edges.does(s + "shorts were cut by put()", BUSY.cells(3, 1, one), 2, "vine", 3, 1, 0, 6);
            Edges.still(s + "ints", BUSY.cells(3, 2, one), -100 - i, "vine", 3, 2, 0, 6);
            one[i] = -codes[i];
            Edges.still(s + "below 0", BUSY.cells(3, 0, one), -100 - i, "vine", 3, 0, 0, 6);
        }
    }

    private static void promise2ATakenTextMakesAllAnew() {
        String s = "promise 2, makes all anew: no GRAFTS, no READINGS";
        Run x = BUSY.on(new Run());
        Checks.due(s, x.call("vine", 0, 0, 0, 21), 7);
        Checks.due(s + ": GRAFTS", x.call("many", 1), 0);
        Checks.due(s + ": READINGS", x.call("many", 3), 0);
        Checks.due(s + ": READINGS", x.call("back", 1), OUTSIDE);
        Checks.due(s + ": LOAD", x.call("ofPost", 4, 1), 0);
        Checks.due(s + ": TWIGS", x.call("ofPost", 0, 4), 2);
        Checks.due(s + ": LOADINGS", x.call("loadings", 0), 1023);
        Checks.due(s + ": KINDS", x.call("kinds", 0), 7);
        Checks.due(s + ": the next READING's number", x.call("reading", 0, 0, 3), 0);
    }

    private static void promise2ASmallerVineHasNoMoreOfALarger() {
        String s = "promise 2, makes all anew: eight POSTS, then two";
        Scene after = STAR.text(1, 0, Scene.TWO).then("vine", 1, 0, 0, 6);
        Edges.still(s, after, UNKNOWN, "ofPost", 2, 0);
        Edges.still(s, after, 2, "ofPost", 0, 4);
        Edges.still(s, after, 1, "ofPost", 1, 4);
        Edges.still(s, after, 1, "middle", 1);
        Edges.still(s, after, 2, "many", 2);
        Edges.still(s, after, 3, "loners", 0);
        Edges.still(s, after, NONE, "row", 0);
        Scene larger = after.text(2, 0, Scene.PATH).then("vine", 2, 0, 0, 24);
        Edges.still(s + ", then eight", larger, 7, "far", 0, 7);
        Edges.still(s + ", then eight", larger, 0123456, "number");
    }

    private static void promise2SheetsAre0To3() {
        String s = "promise 2, UNKNOWN: SHEET";
        for (int k : Edges.beside(3)) {
            Edges.still(s, BUSY, UNKNOWN, "vine", k, 0, 0, 21);
        }
        for (int k = 0; k < 4; k++) {
            Edges.does(s, BUSY.text(k, 0, Scene.TWO), 2, "vine", k, 0, 0, 6);
        }
    }

    private static void promise2LanesAre0To2() {
        String s = "promise 2, OUTSIDE: lane";
        for (int lane : Edges.beside(2)) {
            Edges.still(s, BUSY, OUTSIDE, "vine", 0, lane, 0, 21);
        }
        for (int lane = 0; lane < 3; lane++) {
            Edges.does(s, BUSY.text(3, lane, Scene.TWO), 2, "vine", 3, lane, 0, 6);
        }
    }

    private static void promise2AnotherLaneIsACast() {
        for (int has = 0; has < 3; has++) {
            for (int lane = 0; lane < 3; lane++) {
                String s = "promise 2, CAST: it is of another lane";
                if (has != lane) {
                    Edges.still(s, BUSY.text(3, has, Scene.TWO), CAST, "vine", 3, lane, 0, 6);
                }
            }
        }
    }

    private static void promise2NothingIsNoCast() {
        for (int lane = 0; lane < 3; lane++) {
            Edges.still("promise 2, nothing is no CAST", BUSY, NULL, "vine", 3, lane, 0, 0);
            Scene lost = BUSY.text(3, 0, Scene.TWO).then("lose", 3);
            Edges.still("promise 2, nothing is no CAST", lost, NULL, "vine", 3, lane, 0, 6);
        }
    }

    private static void promise2NBelow0IsASize() {
        String s = "promise 2, SIZE: n is below 0";
        Edges.still(s, BUSY, SIZE, "vine", 0, 0, 0, -1);
        Edges.still(s, BUSY, SIZE, "vine", 0, 0, 0, MIN);
        Edges.still(s, BUSY, -100, "vine", 0, 0, 0, 0);
    }

    private static void promise2NotAllCellsAreThere() {
        String s = "promise 2, INDEX: not all cells are there";
        Edges.does(s, BUSY, 7, "vine", 0, 0, 0, 21);
        Edges.still(s, BUSY, INDEX, "vine", 0, 0, 0, 22);
        Edges.still(s, BUSY, INDEX, "vine", 0, 0, 1, 21);
        Edges.still(s, BUSY, INDEX, "vine", 0, 0, -1, 21);
        Edges.still(s, BUSY, INDEX, "vine", 0, 0, -1, 1);
        Edges.still(s, BUSY, -100, "vine", 0, 0, 20, 1);
        Edges.still(s, BUSY, INDEX, "vine", 0, 0, 20, 2);
        Edges.still(s, BUSY, INDEX, "vine", 0, 0, 21, 1);
        Edges.still(s, BUSY, INDEX, "vine", 0, 0, 0, MAX);
        Edges.still(s, BUSY, INDEX, "vine", 0, 0, 1, MAX);
        Edges.still(s, BUSY, INDEX, "vine", 0, 0, MAX, 1);
        Edges.still(s, BUSY, INDEX, "vine", 0, 0, MAX, MAX);
        Edges.still(s, BUSY, INDEX, "vine", 0, 0, MIN, 21);
        Edges.still(s, BUSY, INDEX, "vine", 0, 0, MIN, MAX);
    }

    private static void promise2IndexIfNoneIsTaken() {
        String s = "promise 2, INDEX where i is not 0 .. how many there are, if none of them is taken, too";
        Edges.still(s, BUSY, -100, "vine", 0, 0, 0, 0);
        Edges.still(s, BUSY, -100, "vine", 0, 0, 21, 0);
        for (int i : Edges.beside(21)) {
            Edges.still(s, BUSY, INDEX, "vine", 0, 0, i, 0);
        }
        Scene empty = BUSY.cells(3, 0);
        Edges.still(s, empty, -100, "vine", 3, 0, 0, 0);
        for (int i : Edges.beside(0)) {
            Edges.still(s, empty, INDEX, "vine", 3, 0, i, 0);
        }
    }

    private static void promise2TheTextMayStandAnywhere() {
        String s = "promise 2, n cells of a SHEET from i on";
        String sixty = "x".repeat(60);
        for (int i : new int[] {0, 1, 53, 54}) {
            String text = sixty.substring(0, i) + Scene.TWO + sixty.substring(i + 6);
            Edges.does(s, NEW.text(3, 0, text), 2, "vine", 3, 0, i, 6);
            Edges.still(s, NEW.text(3, 0, text), -105, "vine", 3, 0, i, 5);
        }
        Edges.still(s, NEW.text(3, 0, sixty), INDEX, "vine", 3, 0, 55, 6);
        Edges.still(s, BUSY.text(3, 0, Scene.TWO + "x"), -106, "vine", 3, 0, 0, 7);
    }

    private static void promise2Order() {
        String s = "promise 2, order: ";
        Edges.still(s + "UNKNOWN, OUTSIDE", BUSY, UNKNOWN, "vine", 4, 3, 0, 21);
        Edges.still(s + "UNKNOWN, SIZE", BUSY, UNKNOWN, "vine", -1, 0, -1, -1);
        Edges.still(s + "OUTSIDE, NULL", BUSY, OUTSIDE, "vine", 3, 3, 0, 0);
        Edges.still(s + "OUTSIDE, SIZE", BUSY, OUTSIDE, "vine", 0, -1, 0, -1);
        Edges.still(s + "OUTSIDE, INDEX", BUSY, OUTSIDE, "vine", 0, 3, 22, 0);
        Edges.still(s + "CAST, SIZE", BUSY, CAST, "vine", 0, 1, 0, -1);
        Edges.still(s + "CAST, INDEX", BUSY, CAST, "vine", 0, 2, 22, 0);
        Edges.still(s + "NULL, SIZE", BUSY, NULL, "vine", 3, 0, 0, -1);
        Edges.still(s + "NULL, INDEX", BUSY, NULL, "vine", 3, 0, 1, 1);
        Edges.still(s + "SIZE, INDEX", BUSY, SIZE, "vine", 0, 0, -1, -1);
        Edges.still(s + "SIZE, INDEX", BUSY, SIZE, "vine", 0, 0, 22, MIN);
        Edges.still(s + "INDEX, FIRST FAULT", BUSY, INDEX, "vine", 1, 2, 0, 7);
    }

    private static void promise2AVineNeedsNoVine() {
        Edges.does("promise 2, there is no VINE yet", BARE, 7, "vine", 0, 0, 0, 21);
        Edges.still("promise 2, there is no VINE yet", BARE, -120, "vine", 0, 0, 0, 20);
    }

    private static void promise2ToEachRowThereIsJustOneVine() {
        for (int n = 2; n <= 8; n++) {
            for (int number : new int[] {0, 1 % Edges.rows(n), Edges.rows(n) / 2, Edges.rows(n) - 1}) {
                StringBuilder row = new StringBuilder();
                for (int k = 0, rest = number; k < n - 2; k++, rest /= n) {
                    row.insert(0, rest % n);
                }
                String text = "v" + n + row + Edges.textOf(n).substring(n);
                String s = "promise 2, to each ROW there is just one VINE [" + text + "]";
                Scene scene = Scene.vine(text);
                Edges.still(s, scene, number, "number");
                for (int k = 0; k < n - 2; k++) {
                    Edges.still(s, scene, row.charAt(k) - '0', "row", k);
                }
                Edges.still(s, scene, n - 1 == 1 ? 2 : Integer.bitCount(ends(row, n)), "many", 2);
            }
        }
    }

    /** POSTS that no ROW names have one TWIG. */
    private static int ends(CharSequence row, int n) {
        int set = (1 << n) - 1;
        for (int k = 0; k < row.length(); k++) {
            set &= ~(1 << row.charAt(k) - '0');
        }
        return set;
    }

    // Promise 3: ofPost

    private static void promise3NoSuchPost() {
        String s = "promise 3, UNKNOWN";
        for (int p : Edges.beside(6)) {
            Edges.still(s, BUSY, UNKNOWN, "ofPost", p, 0);
        }
        Edges.still(s, BUSY, 2, "ofPost", 6, 0);
        Edges.still(s, BUSY, 0, "ofPost", 0, 0);
        for (int n = 2; n <= 8; n++) {
            Scene scene = Scene.vine(Edges.textOf(n));
            Edges.still(s, scene, n - 1, "ofPost", n - 1, 3);
            Edges.still(s, scene, UNKNOWN, "ofPost", n, 3);
        }
        Edges.still(s, BARE, UNKNOWN, "ofPost", 0, 0);
    }

    private static void promise3WhatIs0To5() {
        String s = "promise 3, OUTSIDE";
        for (int what : Edges.beside(5)) {
            Edges.still(s, BUSY, OUTSIDE, "ofPost", 0, what);
        }
        Edges.still(s, BUSY, 0, "ofPost", 0, 0);
        Edges.still(s, BUSY, 3, "ofPost", 0, 5);
    }

    private static void promise3Order() {
        Edges.still("promise 3, order: UNKNOWN, OUTSIDE", BUSY, UNKNOWN, "ofPost", 7, 6);
        Edges.still("promise 3, order: UNKNOWN, OUTSIDE", BARE, UNKNOWN, "ofPost", 0, -1);
    }

    private static void promise3WorthOfEachKind() {
        Scene least = Scene.vine("v30p0b0d0");
        Scene most = Scene.vine("v30p9b9d9");
        int[] leastWorth = {0, 1, 0};
        int[] mostWorth = {9, 10, 18};
        for (int p = 0; p < 3; p++) {
            Edges.still("promise 3, kind", least, p, "ofPost", p, 0);
            Edges.still("promise 3, LOAD 0", least, 0, "ofPost", p, 1);
            Edges.still("promise 3, LOAD 9", most, 9, "ofPost", p, 1);
            Edges.still("promise 3, WORTH with LOAD 0", least, leastWorth[p], "ofPost", p, 2);
            Edges.still("promise 3, WORTH with LOAD 9", most, mostWorth[p], "ofPost", p, 2);
        }
    }

    private static void promise3TwigsAreOneToSeven() {
        String s = "promise 3, TWIGS";
        Edges.still(s, TWO, 1, "ofPost", 0, 3);
        Edges.still(s, TWO, 2, "ofPost", 0, 4);
        Edges.still(s, TWO, 1, "ofPost", 1, 4);
        Edges.still(s, STAR, 7, "ofPost", 0, 3);
        Edges.still(s, STAR, 254, "ofPost", 0, 4);
        Edges.still(s, STAR, 1, "ofPost", 7, 3);
        Edges.still(s, STAR, 1, "ofPost", 7, 4);
        Edges.still(s + ", bit 7 for POST 7", PATH, 128 + 32, "ofPost", 6, 4);
    }

    private static void promise3TheFarthestIsOneToSeven() {
        String s = "promise 3, how FAR the farthest other one is";
        Edges.still(s, TWO, 1, "ofPost", 0, 5);
        Edges.still(s, STAR, 1, "ofPost", 0, 5);
        Edges.still(s, STAR, 2, "ofPost", 7, 5);
        Edges.still(s, PATH, 7, "ofPost", 0, 5);
        Edges.still(s, PATH, 7, "ofPost", 7, 5);
        Edges.still(s, PATH, 4, "ofPost", 3, 5);
        Edges.still(s, PATH, 4, "ofPost", 4, 5);
    }

    // Promise 4: load

    private static void promise4NoSuchPost() {
        for (int p : Edges.beside(6)) {
            Edges.still("promise 4, UNKNOWN", BUSY, UNKNOWN, "load", p, 0);
        }
        Edges.does("promise 4, UNKNOWN", BUSY, 3, "load", 0, 0);
        Edges.does("promise 4, UNKNOWN", BUSY, 2, "load", 6, 0);
        Edges.still("promise 4, UNKNOWN", BARE, UNKNOWN, "load", 0, 0);
    }

    private static void promise4VIs0To9() {
        for (int v : Edges.beside(9)) {
            Edges.still("promise 4, OUTSIDE: v (0 .. 9)", BUSY, OUTSIDE, "load", 0, v);
        }
        for (int v : new int[] {0, 9}) {
            Scene after = BUSY.then("load", 1, v);
            Edges.does("promise 4, what it was", BUSY, 4, "load", 1, v);
            Edges.still("promise 4, becomes v", after, v, "ofPost", 1, 1);
            Edges.still("promise 4, WORTH then", after, v + 1, "ofPost", 1, 2);
            Edges.still("promise 4, kind stays", after, 1, "ofPost", 1, 0);
            Edges.does("promise 4, what it was", after, v, "load", 1, 5);
        }
        Edges.still("promise 4, becomes what it was", BUSY, 4, "load", 1, 4);
    }

    private static void promise4Order() {
        Edges.still("promise 4, order: UNKNOWN, OUTSIDE", BUSY, UNKNOWN, "load", 7, 10);
        Edges.still("promise 4, order: UNKNOWN, OUTSIDE", BARE, UNKNOWN, "load", 0, -1);
    }

    // Promise 5: row

    private static void promise5PlacesAre0To5() {
        for (int k : Edges.beside(5)) {
            Edges.still("promise 5, OUTSIDE", BUSY, OUTSIDE, "row", k);
        }
        Edges.still("promise 5, place 0", PATH, 1, "row", 0);
        Edges.still("promise 5, place 5", PATH, 6, "row", 5);
    }

    private static void promise5ThereAreNotSoMany() {
        for (int n = 2; n <= 8; n++) {
            Scene scene = Scene.vine(Edges.textOf(n));
            for (int k = 0; k < 6; k++) {
                Edges.still("promise 5, NONE: there are not so many", scene, k < n - 2 ? n - 1 : NONE, "row", k);
            }
        }
    }

    private static void promise5ThereIsNoVine() {
        for (int k = 0; k < 6; k++) {
            Edges.still("promise 5, STATE: there is no VINE", BARE, STATE, "row", k);
        }
    }

    private static void promise5Order() {
        Edges.still("promise 5, order: OUTSIDE, STATE", BARE, OUTSIDE, "row", 6);
        Edges.still("promise 5, order: OUTSIDE, STATE", BARE, OUTSIDE, "row", -1);
        Edges.still("promise 5, order: OUTSIDE, NONE", TWO, OUTSIDE, "row", 6);
    }

    private static void promise5TheLeastWithOneTwig() {
        // After the graft 0 and 1 hang on 5 and 3; 3 becomes one with one TWIG itself ahead of 6.
        int[] row = {5, 3, 3, 5, 2, NONE};
        for (int k = 0; k < 6; k++) {
            Edges.still("promise 5, the least of those with one TWIG is taken away", BUSY, row[k], "row", k);
        }
    }
}
