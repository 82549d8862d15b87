/** The edges of section 2: GRAFTS and DAYS; promises 6 and 7. */
public final class Edge2GraftsTest {
    private static final int UNKNOWN = Edges.UNKNOWN, OUTSIDE = Edges.OUTSIDE, STATE = Edges.STATE;
    private static final int NONE = Edges.NONE, MIN = Edges.MIN, MAX = Edges.MAX;
    private static final int NULL = Edges.NULL, CAST = Edges.CAST, INDEX = Edges.INDEX;
    private static final Scene BARE = Scene.BARE, BUSY = Scene.BUSY;
    private static final Scene TWO = Scene.vine(Scene.TWO);
    private static final Scene STAR = Scene.vine(Scene.STAR);
    private static final Scene PATH = Scene.vine(Scene.PATH);
    private static final int[] WHATS = {0, 1, 2, 3, 4, 10, 11, 12, 13, 14, 15, 16, 17};

    public static void main(String[] args) throws Exception {
        Edges.runAll(Edge2GraftsTest.class);
    }

    // Promise 6: graft

    private static void promise6NoSuchPost() {
        String s = "promise 6, UNKNOWN: either";
        for (int p : Edges.beside(6)) {
            Edges.still(s, BUSY, UNKNOWN, "graft", p, 0);
            Edges.still(s, BUSY, UNKNOWN, "graft", 0, p);
            Edges.still(s, BUSY, UNKNOWN, "graft", p, p);
        }
        Edges.does(s, BUSY, 2, "graft", 6, 0);
        Edges.does(s, BUSY, 5, "graft", 0, 6);
        Edges.still(s, BARE, UNKNOWN, "graft", 0, 1);
    }

    private static void promise6BothTheSame() {
        for (int p = 0; p < 7; p++) {
            Edges.still("promise 6, UNKNOWN: both the same", BUSY, UNKNOWN, "graft", p, p);
        }
    }

    private static void promise6ItHasMoreTwigsThanOne() {
        String s = "promise 6, STATE: it has more TWIGS than one";
        for (int p : new int[] {2, 3, 5}) {
            Edges.still(s, BUSY, STATE, "graft", p, 0);
        }
        for (int p : new int[] {0, 1, 4}) {
            Edges.does(s, BUSY, p == 0 ? 5 : 3, "graft", p, 6);
        }
        Edges.still(s, STAR, STATE, "graft", 0, 7);
        Edges.does(s, STAR, 0, "graft", 7, 6);
        Edges.still(s, STAR.then("graft", 7, 6), STATE, "graft", 6, 5);
        Edges.does(s, STAR.then("graft", 7, 6).then("graft", 7, 5), 0, "graft", 6, 5);
    }

    private static void promise6Order() {
        Edges.still("promise 6, order: UNKNOWN, STATE", BUSY, UNKNOWN, "graft", 3, 7);
        Edges.still("promise 6, order: UNKNOWN, STATE", BUSY, UNKNOWN, "graft", 3, 3);
        Edges.still("promise 6, order: UNKNOWN, STATE", STAR, UNKNOWN, "graft", 0, 8);
    }

    private static void promise6PerhapsTheSameAsItDid() {
        String s = "promise 6, hangs on a told other one (perhaps the same as it did)";
        Edges.does(s, BUSY, 5, "graft", 0, 5);
        Scene after = BUSY.then("graft", 0, 5);
        Edges.still(s + ", is counted", after, 2, "many", 1);
        Edges.still(s, after, 32, "ofPost", 0, 4);
        Edges.still(s, after, 13, "ofPost", 5, 4);
        Edges.still(s, after, 13218, "number");
    }

    private static void promise6OfTwoPosts() {
        String s = "promise 6, of two POSTS each hangs on the other one";
        Edges.does(s, TWO, 1, "graft", 0, 1);
        Edges.does(s, TWO, 0, "graft", 1, 0);
        Scene after = TWO.then("graft", 0, 1).then("graft", 1, 0);
        Edges.still(s, after, 2, "many", 1);
        Edges.still(s, after, 1, "far", 0, 1);
        Edges.still(s, after, 2, "ofPost", 0, 4);
        Edges.still(s, after, 1, "ofPost", 1, 4);
    }

    private static void promise6FromThenOn() {
        String s = "promise 6, hangs by that from then on";
        Scene after = PATH.then("graft", 0, 7);
        Edges.does(s, PATH, 1, "graft", 0, 7);
        Edges.still(s, after, 7, "far", 0, 1);
        Edges.still(s, after, 1, "far", 0, 7);
        Edges.still(s, after, 1 << 7, "ofPost", 0, 4);
        Edges.still(s, after, 1 << 2, "ofPost", 1, 4);
        Edges.still(s, after, (1 << 6) + 1, "ofPost", 7, 4);
        Edges.still(s, after, 7, "row", 0);
        Edges.still(s, after, 2, "row", 1);
        Edges.still(s, after, 6, "row", 5);
        Edges.still(s, after, STATE, "part", 0, 1);
        Edges.still(s, after, 1, "part", 0, 7);
    }

    private static void promise6AVineOfAnyShapeByGrafts() {
        Scene scene = STAR;
        for (int p = 2; p < 8; p++) {
            scene = scene.then("graft", p, p - 1);
        }
        String s = "promise 6, a path made of a star";
        Edges.still(s, scene, 7, "far", 0, 7);
        Edges.still(s, scene, 0123456, "number");
        Edges.still(s, scene, 20160, "alike");
        Edges.still(s, scene, 6, "many", 1);
    }

    // Promise 7: day

    private static Scene withDay(Scene scene, int... pairs) {
        return scene.cells(1, 2, pairs);
    }

    /** Each what of a right DAY: LONG, NONE, NUMBER, POSTS with one TWIG, WORTH, then TWIGS of 0 .. 7. */
    private static void right(String sentence, Scene scene, int[] want, int... pairs) {
        for (int k = 0; k < WHATS.length; k++) {
            Edges.still("promise 7, " + sentence, withDay(scene, pairs), want[k], "day", 1, 2, 0, pairs.length / 2,
                WHATS[k]);
        }
    }

    private static void wrong(String sentence, Scene scene, int first, int... pairs) {
        for (int what : WHATS) {
            Edges.still("promise 7, FIRST WRONG: " + sentence, withDay(scene, pairs), what == 1 ? first : -100 - first,
                "day", 1, 2, 0, pairs.length / 2, what);
        }
    }

    private static void refused(String sentence, Scene scene, int want, int... pairs) {
        for (int what : new int[] {0, 1, 10, 17}) {
            Edges.still("promise 7, " + sentence, withDay(scene, pairs), want, "day", 1, 2, 0, pairs.length / 2, what);
        }
    }

    private static void goes(String sentence, Scene scene, int... pairs) {
        Edges.still("promise 7, " + sentence, withDay(scene, pairs), NONE, "day", 1, 2, 0, pairs.length / 2, 1);
    }

    private static void promise7OfNoPairs() {
        int[] want = {4, NONE, 13218, 83, 46, 32, 8, 96, 50, 8, 13, 4, NONE};
        right("n 0: how all is now", BUSY, want);
    }

    private static void promise7NothingIsChanged() {
        // 0 on 4, LOAD of 3 becomes 9, 6 on 1: 0-4 4-3 3-1 1-6 3-5 5-2.
        int number = (((4 * 7 + 5) * 7 + 3) * 7 + 3) * 7 + 1;
        int[] want = {4, NONE, number, 1 + 4 + 64, 49, 16, 72, 32, 50, 9, 12, 2, NONE};
        right("(nothing is changed)", BUSY, want, 0, 4, 9, 13, 6, 1);
    }

    private static void promise7SheetsAre0To3() {
        String s = "promise 7, UNKNOWN: SHEET";
        for (int k : Edges.beside(3)) {
            Edges.still(s, BUSY, UNKNOWN, "day", k, 2, 0, 3, 0);
        }
        for (int k = 0; k < 4; k++) {
            Edges.still(s, BUSY.cells(k, 2, 0, 4), 16, "day", k, 2, 0, 1, 10);
        }
    }

    private static void promise7LanesAre0To2() {
        String s = "promise 7, OUTSIDE: lane";
        for (int lane : Edges.beside(2)) {
            Edges.still(s, BUSY, OUTSIDE, "day", 1, lane, 0, 3, 0);
        }
        for (int lane = 0; lane < 3; lane++) {
            Edges.still(s, BUSY.cells(3, lane, 0, 4), 16, "day", 3, lane, 0, 1, 10);
        }
    }

    private static void promise7NIs0To20() {
        String s = "promise 7, OUTSIDE: n (0 .. 20)";
        int[] pairs = new int[60];
        for (int k = 0; k < 30; k++) {
            pairs[2 * k] = k < 20 ? k % 10 : 3;
            pairs[2 * k + 1] = 10;
        }
        Scene scene = Scene.vine(Scene.SEVEN).cells(1, 2, pairs);
        Edges.still(s, scene, 38, "day", 1, 2, 0, 0, 4);
        Edges.still(s, scene, 38 - 3 + 8, "day", 1, 2, 0, 19, 4);
        Edges.still(s, scene, 38 - 3 + 9, "day", 1, 2, 0, 20, 4);
        for (int n : Edges.beside(20)) {
            Edges.still(s, scene, OUTSIDE, "day", 1, 2, 0, n, 4);
        }
    }

    private static void promise7WhatIs0To4And10To17() {
        String s = "promise 7, OUTSIDE: what (0 .. 4, 10 .. 17)";
        for (int what : new int[] {-1, 5, 6, 7, 8, 9, 18, 19, MIN, MAX}) {
            Edges.still(s, BUSY, OUTSIDE, "day", 1, 2, 0, 3, what);
            Edges.still(s, withDay(BUSY, 3, 3), OUTSIDE, "day", 1, 2, 0, 1, what);
        }
        Edges.still(s, BUSY, 4, "day", 1, 2, 0, 3, 0);
        Edges.still(s, BUSY, 49, "day", 1, 2, 0, 3, 4);
        Edges.still(s, BUSY, 16, "day", 1, 2, 0, 3, 10);
        Edges.still(s, BUSY, NONE, "day", 1, 2, 0, 3, 17);
    }

    private static void promise7ThereIsNoSuchPostToAsk() {
        String s = "promise 7, (10 and p; NONE: there is no such POST)";
        for (int n = 2; n <= 8; n++) {
            Scene scene = Scene.vine(Edges.textOf(n)).cells(1, 2);
            for (int p = 0; p < 8; p++) {
                int want = p == n - 1 ? (1 << n - 1) - 1 : p < n ? 1 << n - 1 : NONE;
                Edges.still(s, scene, want, "day", 1, 2, 0, 0, 10 + p);
            }
        }
    }

    private static void promise7AnotherLaneIsACast() {
        String s = "promise 7, CAST";
        for (int has = 0; has < 3; has++) {
            for (int lane = 0; lane < 3; lane++) {
                if (has != lane) {
                    Edges.still(s, BUSY.cells(3, has, 0, 4), CAST, "day", 3, lane, 0, 1, 0);
                }
            }
        }
    }

    private static void promise7NothingIsNull() {
        for (int lane = 0; lane < 3; lane++) {
            Edges.still("promise 7, NULL", BUSY, NULL, "day", 3, lane, 0, 0, 0);
            Edges.still("promise 7, NULL", BUSY.then("lose", 1), NULL, "day", 1, lane, 0, 3, 0);
        }
    }

    private static void promise7TwiceNCells() {
        String s = "promise 7, INDEX: cells from i on (2 n)";
        Edges.still(s, BUSY, NONE, "day", 1, 2, 0, 3, 1);
        Edges.still(s, BUSY, INDEX, "day", 1, 2, 0, 4, 1);
        Edges.still(s, BUSY, NONE, "day", 1, 2, 4, 1, 1);
        Edges.still(s, BUSY, INDEX, "day", 1, 2, 5, 1, 1);
        Edges.still(s, BUSY, INDEX, "day", 1, 2, 6, 1, 1);
        Edges.still(s, BUSY, INDEX, "day", 1, 2, 1, 3, 1);
        Edges.still(s, BUSY, INDEX, "day", 1, 2, -1, 1, 1);
        Edges.still(s, BUSY, INDEX, "day", 1, 2, -1, 3, 1);
        Edges.still(s, BUSY, INDEX, "day", 1, 2, MAX, 20, 1);
        Edges.still(s, BUSY, INDEX, "day", 1, 2, MAX - 1, 1, 1);
        Edges.still(s, BUSY, INDEX, "day", 1, 2, MIN, 20, 1);
        Edges.still(s + ", one less than two", withDay(BUSY, 0), INDEX, "day", 1, 2, 0, 1, 1);
        Edges.still(s + ", just two", withDay(BUSY, 0, 4), NONE, "day", 1, 2, 0, 1, 1);
        Edges.still(s + ", the last of sixty", Scene.vine(Scene.TWO).cells(1, 2, new int[60]), 0,
            "day", 1, 2, 20, 20, 1);
        Edges.still(s + ", behind the last of sixty", Scene.vine(Scene.TWO).cells(1, 2, new int[60]), INDEX,
            "day", 1, 2, 21, 20, 1);
    }

    private static void promise7IndexIfNoneIsTaken() {
        String s = "promise 7, INDEX where i is not 0 .. how many there are, if none of them is taken, too";
        Edges.still(s, BUSY, 4, "day", 1, 2, 0, 0, 0);
        Edges.still(s, BUSY, 4, "day", 1, 2, 6, 0, 0);
        for (int i : Edges.beside(6)) {
            Edges.still(s, BUSY, INDEX, "day", 1, 2, i, 0, 0);
        }
        Edges.still(s, withDay(BUSY), 4, "day", 1, 2, 0, 0, 0);
        for (int i : Edges.beside(0)) {
            Edges.still(s, withDay(BUSY), INDEX, "day", 1, 2, i, 0, 0);
        }
    }

    private static void promise7ThereIsNoVine() {
        for (int what : WHATS) {
            Edges.still("promise 7, STATE: there is no VINE", BARE, STATE, "day", 1, 2, 0, 0, what);
            Edges.still("promise 7, STATE: there is no VINE", BARE, STATE, "day", 1, 2, 0, 3, what);
        }
    }

    private static void promise7TheSecondIs0To7Or10To17() {
        String s = "OUTSIDE: the second is none of 0 .. 7, 10 .. 17";
        for (int second : new int[] {-1, 8, 9, 18, 19, MIN, MAX, 256, 65536}) {
            refused(s, BUSY, OUTSIDE, 0, second);
            refused(s + ", in a later pair", BUSY, OUTSIDE, 0, 4, 6, 1, 0, second);
        }
        for (int second : new int[] {1, 6, 10, 16}) {
            goes(s, BUSY, 0, second);
        }
        goes(s, PATH, 0, 7);
        goes(s, PATH, 0, 17);
        goes(s + ", 0", PATH, 7, 0);
    }

    private static void promise7ALoadTellsThatTheFirstIs0To9() {
        String s = "OUTSIDE: it is 10 .. 17 and the first is not 0 .. 9";
        for (int first : Edges.beside(9)) {
            refused(s, BUSY, OUTSIDE, first, 10);
            refused(s, BUSY, OUTSIDE, first, 16);
            refused(s + ", though there is no such POST", BUSY, OUTSIDE, first, 17);
        }
        for (int first : new int[] {0, 9}) {
            Edges.still("promise 7, " + s, withDay(BUSY, first, 10), 43 + first, "day", 1, 2, 0, 1, 4);
            Edges.still("promise 7, " + s, withDay(BUSY, first, 16), 42 + 2 * first, "day", 1, 2, 0, 1, 4);
        }
    }

    private static void promise7TheFirstIsNoPost() {
        String s = "UNKNOWN: the first is no POST (of 0 .. 7)";
        for (int first : Edges.beside(6)) {
            for (int second : new int[] {0, 6, 7}) {
                refused(s, BUSY, UNKNOWN, first, second);
            }
            refused(s + ", in a later pair", BUSY, UNKNOWN, 0, 4, first, 0);
        }
        goes(s, BUSY, 6, 0);
        goes(s, BUSY, 0, 6);
        goes(s + ": 10 .. 17 tell a LOAD, no POST", BUSY, 7, 10, 8, 10, 9, 10);
        for (int n = 2; n <= 8; n++) {
            refused(s, Scene.vine(Edges.textOf(n)), UNKNOWN, n, 0);
        }
        goes(s, PATH, 7, 0);
    }

    private static void promise7ThereIsNoSuchPost() {
        String s = "there is no such POST";
        wrong(s, BUSY, 0, 0, 7);
        wrong(s, BUSY, 0, 0, 17);
        wrong(s, BUSY, 1, 0, 16, 9, 17);
        wrong(s, TWO, 0, 0, 2);
        wrong(s, TWO, 0, 0, 12);
        goes(s, TWO, 0, 1, 0, 11, 1, 0, 9, 10);
        for (int n = 2; n < 8; n++) {
            Scene scene = Scene.vine(Edges.textOf(n));
            wrong(s, scene, 0, 0, n);
            wrong(s, scene, 0, 0, 10 + n);
            goes(s, scene, 0, n - 1, 0, 10 + n - 1);
        }
    }

    private static void promise7BothAreTheSame() {
        for (int p = 0; p < 7; p++) {
            wrong("both are the same", BUSY, 0, p, p);
        }
        goes("FIRST WRONG: a LOAD of the same number is none", BUSY, 0, 10, 1, 11, 6, 16);
    }

    private static void promise7ItHasMoreTwigsThanOne() {
        String s = "it has more TWIGS than one";
        for (int p : new int[] {2, 3, 5}) {
            wrong(s, BUSY, 0, p, 0);
        }
        wrong(s + " by then", BUSY, 1, 1, 4, 4, 0);
        goes("FIRST WRONG: " + s + ", but no more by then", BUSY, 6, 5, 2, 6);
        goes("FIRST WRONG: it hangs as it did", BUSY, 0, 5, 1, 3, 4, 3, 6, 2);
        goes("FIRST WRONG: the same one again and again", BUSY, 0, 1, 0, 2, 0, 3, 0, 4, 0, 6, 0, 5);
    }

    private static void promise7TheFirstActThatCantBe() {
        wrong("the first of several", BUSY, 1, 0, 4, 3, 3, 0, 7, 2, 0);
        int[] pairs = new int[40];
        for (int k = 0; k < 20; k++) {
            pairs[2 * k] = k < 19 ? k % 10 : 3;
            pairs[2 * k + 1] = k < 19 ? 10 : 3;
        }
        wrong("the last of twenty", BUSY, 19, pairs);
    }

    private static void promise7EachActIsBehindThoseAhead() {
        // 6 on 5, 2 on 6, LOAD of 2 becomes 0, then 9: 0-5 1-3 3-4 3-5 5-6 6-2.
        int number = (((5 * 7 + 3) * 7 + 6) * 7 + 3) * 7 + 5;
        int[] want = {4, NONE, number, 1 + 2 + 4 + 16, 46 - 10 + 18, 32, 8, 64, 50, 8, 73, 36, NONE};
        right("one behind another", BUSY, want, 6, 5, 2, 6, 0, 12, 9, 12);
    }

    private static void promise7OfTwoAndOfEightPosts() {
        int[] two = {1, NONE, 0, 3, 3, 2, 1, NONE, NONE, NONE, NONE, NONE, NONE};
        right("of two POSTS", TWO, two, 0, 1, 0, 10);
        // 0 on 7: it is the least with one TWIG then, 1 the next.
        int[] eight = {7, NONE, 0723456, 3, 8, 128, 4, 10, 20, 40, 80, 160, 65};
        right("of eight POSTS", PATH, eight, 0, 7);
    }

    private static void promise7CellsOfEachLaneBelow0() {
        String s = "promise 7, cells of a LANE, as they were cut";
        Edges.still(s, BUSY.cells(3, 0, 256, 260), 16, "day", 3, 0, 0, 1, 10);
        Edges.still(s, BUSY.cells(3, 1, 65536, 65540), 16, "day", 3, 1, 0, 1, 10);
        Edges.still(s, BUSY.cells(3, 1, 256, 4), UNKNOWN, "day", 3, 1, 0, 1, 10);
        Edges.still(s, BUSY.cells(3, 0, 255, 4), UNKNOWN, "day", 3, 0, 0, 1, 10);
        Edges.still(s, BUSY.cells(3, 2, 65536, 4), UNKNOWN, "day", 3, 2, 0, 1, 10);
    }

    private static void promise7OrderOfTheCall() {
        String s = "promise 7, order: ";
        Edges.still(s + "UNKNOWN, OUTSIDE lane", BUSY, UNKNOWN, "day", 4, 3, 0, 0, 0);
        Edges.still(s + "UNKNOWN, OUTSIDE n", BUSY, UNKNOWN, "day", -1, 0, 0, 21, 0);
        Edges.still(s + "UNKNOWN, OUTSIDE what", BUSY, UNKNOWN, "day", 4, 0, 0, 0, 5);
        Edges.still(s + "UNKNOWN, STATE", BARE, UNKNOWN, "day", 4, 0, 0, 0, 0);
        Edges.still(s + "OUTSIDE lane, NULL", BUSY, OUTSIDE, "day", 3, 3, 0, 0, 0);
        Edges.still(s + "OUTSIDE n, NULL", BUSY, OUTSIDE, "day", 3, 0, 0, -1, 0);
        Edges.still(s + "OUTSIDE what, NULL", BUSY, OUTSIDE, "day", 3, 0, 0, 0, 18);
        Edges.still(s + "OUTSIDE n, CAST", BUSY, OUTSIDE, "day", 1, 0, 0, 21, 0);
        Edges.still(s + "OUTSIDE what, CAST", BUSY, OUTSIDE, "day", 1, 0, 0, 1, 9);
        Edges.still(s + "OUTSIDE n, INDEX", BUSY, OUTSIDE, "day", 1, 2, 7, -1, 0);
        Edges.still(s + "OUTSIDE what, INDEX", BUSY, OUTSIDE, "day", 1, 2, 7, 1, -1);
        Edges.still(s + "OUTSIDE, STATE", BARE, OUTSIDE, "day", 1, 2, 0, 21, 0);
        Edges.still(s + "CAST, INDEX", BUSY, CAST, "day", 1, 1, 7, 0, 0);
        Edges.still(s + "CAST, STATE", BARE, CAST, "day", 1, 1, 0, 0, 0);
        Edges.still(s + "NULL, INDEX", BUSY, NULL, "day", 3, 1, 7, 1, 0);
        Edges.still(s + "NULL, STATE", BARE, NULL, "day", 3, 1, 0, 0, 0);
        Edges.still(s + "INDEX, STATE", BARE, INDEX, "day", 1, 2, 7, 0, 0);
        Edges.still(s + "INDEX, STATE", BARE, INDEX, "day", 1, 2, 0, 4, 0);
        Edges.still(s + "INDEX, a pair", withDay(BUSY, 0, 8), INDEX, "day", 1, 2, 0, 2, 0);
        Edges.still(s + "STATE, a pair OUTSIDE", withDay(BARE, 0, 8), STATE, "day", 1, 2, 0, 1, 0);
        Edges.still(s + "STATE, a pair UNKNOWN", BARE, STATE, "day", 1, 2, 0, 1, 0);
    }

    private static void promise7OrderOfThePairs() {
        refused("order in a pair: OUTSIDE, UNKNOWN", BUSY, OUTSIDE, 7, 8);
        refused("order in a pair: OUTSIDE, UNKNOWN", BUSY, OUTSIDE, -1, 18);
        refused("order in a pair: UNKNOWN, both are the same", BUSY, UNKNOWN, 7, 7);
        refused("pair by pair: UNKNOWN, then OUTSIDE", BUSY, UNKNOWN, 7, 0, 0, 8);
        refused("pair by pair: OUTSIDE, then UNKNOWN", BUSY, OUTSIDE, 0, 8, 7, 0);
        refused("pair by pair: OUTSIDE of a LOAD, then UNKNOWN", BUSY, OUTSIDE, 10, 10, 7, 0);
        refused("pair by pair: UNKNOWN, then OUTSIDE of a LOAD", BUSY, UNKNOWN, 7, 0, 10, 10);
        refused("REFUSALS ahead of a FIRST WRONG", BUSY, OUTSIDE, 3, 3, 0, 8);
        refused("REFUSALS ahead of a FIRST WRONG", BUSY, UNKNOWN, 3, 3, 7, 0);
        refused("REFUSALS ahead of a FIRST WRONG", BUSY, OUTSIDE, 0, 17, 10, 10);
        Scene beyond = withDay(BUSY, 0, 4, 0, 8);
        Edges.still("promise 7, a pair that is not taken", beyond, NONE, "day", 1, 2, 0, 1, 1);
        Edges.still("promise 7, a pair that is not taken", withDay(BUSY, 0, 8, 0, 4), NONE, "day", 1, 2, 2, 1, 1);
    }
}
