/**
 * Each promise by itself, with answers found by hand. SEVEN has the twigs 0-1 1-3 3-4 3-5 5-2 2-6 and
 * the worths 3 5 10 6 1 9 4.
 */
public final class PromiseTest {
    private static final String SEVEN = "v713352p3b4d5p6b0p9d2";
    private static final String PATH = "v8123456p1p1p1p1p1p1p1p1";
    private static final String STAR = "v8000000p9b9d9p0b0d0p5b5";
    private static final String TWO = "v2p1b2";
    private static final int MIN = Integer.MIN_VALUE, MAX = Integer.MAX_VALUE;
    private static final long LOST = Long.MIN_VALUE;

    public static void main(String[] args) {
        promise1();
        promise2Texts();
        promise2Refusals();
        promise2Anew();
        promise3();
        promise4();
        promise5();
        promise6();
        promise7Answers();
        promise7Wrong();
        promise7Refusals();
        promises8And9();
        promise10();
        promise11();
        promise12();
        promise13();
        promise14();
        promise15();
        promises16And17();
        promise18();
        promise19();
        promise20();
        promise21();
        promises22And23();
        promise24();
        promise25();
        promises26And27And29();
        promise28();
        promise30();
        promise31();
        Checks.finish("PromiseTest");
    }

    private static VineRows with(String text) {
        VineRows x = new VineRows();
        Checks.due("planting " + text, Checks.plant(x, text), text.charAt(1) - '0');
        return x;
    }

    private static void due(String call, long got, long want) {
        Checks.due(call, got, want);
    }

    private static void promise1() {
        VineRows x = new VineRows();
        for (int what = 0; what < 4; what++) {
            due("1 many", x.many(what), 0);
        }
        for (int k = 0; k < 4; k++) {
            due("1 lose", x.lose(k), 0);
        }
        due("1 fault", x.fault(), 0);
        due("1 trace", x.trace(), 0);
        Checks.plant(x, TWO);
        due("1 another object has none of it", new VineRows().many(0), 0);
        due("1 LOST", VineRows.LOST, LOST);
    }

    private static void promise2Texts() {
        VineRows x = with(TWO);
        String[] texts = {
            "", "v", "x", "v1", "v9", "v2", "v2p", "v2p1", "v2p1b", "v2p1b2p", "v2p1b22", "v20p1b2", "v2pp",
            "v2p1v2", "v2P1b2", "v2p:b2", "v2p/b2", "v33p1p1p1", "v3/p1p1p1", "v3", "v8777778", "v877777p",
            "v81234567", "v8777777p1p1p1p1p1p1p1p", "V2p1b2", "2p1b2"
        };
        int[] faults = {0, 1, 0, 1, 1, 2, 3, 4, 5, 6, 6, 2, 3, 4, 2, 3, 3, 2, 2, 2, 7, 7, 8, 23, 0, 0};
        for (int k = 0; k < texts.length; k++) {
            due("2 " + texts[k], Checks.plant(x, texts[k]), -100 - faults[k]);
            due("2 no fault", x.fault(), 0);
            due("2 still", x.many(0), 2);
        }
        due("2 every digit", Checks.plant(x, "v8777777p0b1d2p3b4d5p6b9"), 8);
        due("2 middle of cells", x.copy(0, 0, 0, 0, 0), 0);
        x.sheet(1, 1, 60);
        for (int i = 0; i < 6; i++) {
            x.put(1, 54 + i, TWO.charAt(i) + 65536);
        }
        due("2 last cells, shorts cut", x.vine(1, 1, 54, 6), 2);
        Checks.fill(x, 2, 118 + 256, 50);
        due("2 ints are not cut", x.vine(2, 2, 0, 2), -100);
    }

    private static void promise2Refusals() {
        VineRows x = new VineRows();
        due("2 sheet", x.vine(4, 3, 0, 0), -1);
        due("2 sheet", x.vine(-1, 0, 0, 0), -1);
        due("2 lane", x.vine(0, 3, 0, 0), -2);
        due("2 lane", x.vine(0, -1, 0, 0), -2);
        due("2 nothing", x.vine(0, 0, -1, -1), -11);
        due("2 nothing is no CAST", x.vine(0, 2, 0, 0), -11);
        x.sheet(0, 1, 6);
        due("2 cast", x.vine(0, 0, -1, -1), -12);
        due("2 size", x.vine(0, 1, -1, -1), -14);
        due("2 fault", x.fault(), 4);
        due("2 size", x.vine(0, 1, 0, MIN), -14);
        due("2 index", x.vine(0, 1, -1, 0), -13);
        due("2 index", x.vine(0, 1, 7, 0), -13);
        due("2 index", x.vine(0, 1, 1, 6), -13);
        due("2 index", x.vine(0, 1, MAX, MAX), -13);
        due("2 index", x.vine(0, 1, 1, MAX), -13);
        due("2 fault", x.fault(), 3);
        due("2 none taken", x.vine(0, 1, 6, 0), -100);
        due("2 fault", x.fault(), 0);
    }

    private static void promise2Anew() {
        VineRows x = with(SEVEN);
        x.graft(0, 5);
        x.reading(0, 0, 0);
        x.tell(0);
        due("2 refused", Checks.plant(x, "v2p1b"), -105);
        due("2 grafts", x.many(1), 1);
        due("2 readings", x.many(3), 1);
        due("2 anew", Checks.plant(x, SEVEN), 7);
        due("2 grafts", x.many(1), 0);
        due("2 readings", x.many(3), 0);
        due("2 all can be", x.loadings(0), 1023);
        due("2 hangs as told", x.ofPost(0, 4), 2);
        due("2 trace is of tellings", x.trace(), 1);
    }

    private static void promise3() {
        VineRows x = with(SEVEN);
        int[][] all = {
            {0, 3, 3, 1, 2, 5}, {1, 4, 5, 2, 9, 4}, {2, 5, 10, 2, 96, 4}, {0, 6, 6, 3, 50, 3},
            {1, 0, 1, 1, 8, 4}, {0, 9, 9, 2, 12, 3}, {2, 2, 4, 1, 4, 5}
        };
        for (int p = 0; p < 7; p++) {
            for (int what = 0; what < 6; what++) {
                due("3 ofPost " + p + " " + what, x.ofPost(p, what), all[p][what]);
            }
        }
        due("3 no post", x.ofPost(7, 0), -1);
        due("3 no post", x.ofPost(-1, 6), -1);
        due("3 no post", x.ofPost(MAX, 0), -1);
        due("3 what", x.ofPost(6, 6), -2);
        due("3 what", x.ofPost(6, -1), -2);
    }

    private static void promise4() {
        VineRows x = with(SEVEN);
        due("4 was", x.load(2, 9), 5);
        due("4 is", x.ofPost(2, 1), 9);
        due("4 worth", x.ofPost(2, 2), 18);
        due("4 was", x.load(2, 0), 9);
        due("4 kind stays", x.ofPost(2, 0), 2);
        due("4 outside", x.load(2, 10), -2);
        due("4 outside", x.load(2, -1), -2);
        due("4 no post", x.load(7, 10), -1);
        due("4 as it was", x.ofPost(2, 1), 0);
    }

    private static void promise5() {
        VineRows x = with(SEVEN);
        int[] row = {1, 3, 3, 5, 2, -9};
        for (int k = 0; k < 6; k++) {
            due("5 row " + k, x.row(k), row[k]);
        }
        due("5 outside", x.row(6), -2);
        due("5 outside", x.row(-1), -2);
        due("5 none of two", with(TWO).row(0), -9);
        due("5 last of eight", with(PATH).row(5), 6);
        due("5 outside first", new VineRows().row(6), -2);
        due("5 no vine", new VineRows().row(5), -3);
    }

    private static void promise6() {
        VineRows x = with(SEVEN);
        due("6 hung on", x.graft(0, 5), 1);
        due("6 hangs on", x.ofPost(0, 4), 32);
        due("6 no more there", x.ofPost(1, 4), 8);
        due("6 far", x.far(0, 6), 3);
        due("6 row", x.row(0), 5);
        due("6 on the same", x.graft(0, 5), 5);
        due("6 counts, too", x.many(1), 2);
        due("6 more twigs", x.graft(3, 0), -3);
        due("6 both the same", x.graft(3, 3), -1);
        due("6 no post", x.graft(7, 0), -1);
        due("6 no post", x.graft(0, 7), -1);
        due("6 no post", x.graft(3, -1), -1);
        due("6 not counted", x.many(1), 2);
        VineRows two = with(TWO);
        due("6 of two", two.graft(1, 0), 0);
        due("6 of two", two.far(0, 1), 1);
    }

    private static void promise7Answers() {
        VineRows x = with(SEVEN);
        // 0 hangs on 6 then, 4 on 0; 4 bears 9; 2 bears 0.
        Checks.fill(x, 1, 0, 6, 4, 0, 9, 14, 0, 12);
        int[] whats = {0, 1, 2, 3, 4, 10, 11, 12, 13, 14, 15, 16, 17};
        // The row then: 3, 5, 0 hangs last: 1-3 3-5 5-2 2-6 6-0 0-4, least ends 1, 3, 4, 0, 5.
        int number = (((3 * 7 + 5) * 7 + 0) * 7 + 6) * 7 + 2;
        int[] want = {6, -9, number, 18, 3 + 5 + 0 + 6 + 10 + 9 + 4, 80, 8, 96, 34, 1, 12, 5, -9};
        for (int k = 0; k < whats.length; k++) {
            due("7 what " + whats[k], x.day(1, 2, 0, 4, whats[k]), want[k]);
        }
        due("7 nothing changed", x.ofPost(0, 4), 2);
        due("7 nothing changed", x.ofPost(4, 1), 0);
        due("7 nothing counted", x.many(1), 0);
        due("7 from a later cell on", x.day(1, 2, 4, 2, 4), 37);
        due("7 of no pairs", x.day(1, 2, 8, 0, 4), 38);
        int[] forty = new int[40];
        for (int k = 0; k < 20; k++) {
            forty[2 * k] = 9;
            forty[2 * k + 1] = 10;
        }
        Checks.fill(x, 1, forty);
        due("7 twenty pairs", x.day(1, 2, 0, 20, 4), 44);
    }

    private static void promise7Wrong() {
        VineRows x = with(SEVEN);
        int[][] days = {
            {1, 0}, {0, 0}, {0, 7}, {9, 17}, {0, 4, 4, 0}, {0, 10, 3, 3}, {0, 1, 6, 2, 1, 3},
            {0, 2, 1, 2, 3, 2, 1, 0}
        };
        int[] first = {0, 0, 0, 0, 1, 1, 2, 2};
        for (int k = 0; k < days.length; k++) {
            Checks.fill(x, 1, days[k]);
            int n = days[k].length / 2;
            due("7 first wrong of day " + k, x.day(1, 2, 0, n, 1), first[k]);
            due("7 wrong day " + k, x.day(1, 2, 0, n, 0), -100 - first[k]);
            due("7 wrong day " + k, x.day(1, 2, 0, n, 17), -100 - first[k]);
            due("7 no fault", x.fault(), 0);
        }
    }

    private static void promise7Refusals() {
        VineRows none = new VineRows();
        due("7 nothing ahead of no vine", none.day(0, 0, 0, 0, 0), -11);
        Checks.fill(none, 0, 50, 50);
        due("7 index ahead of no vine", none.day(0, 2, 3, 0, 0), -13);
        due("7 no vine ahead of pairs", none.day(0, 2, 0, 1, 0), -3);
        VineRows x = with(SEVEN);
        Checks.fill(x, 1, 0, 0, 0, 8);
        due("7 sheet", x.day(4, 3, 0, 0, 0), -1);
        due("7 lane", x.day(1, 3, 0, 1, 0), -2);
        due("7 n", x.day(1, 2, 0, -1, 0), -2);
        due("7 n", x.day(1, 0, 0, 21, 0), -2);
        int[] outside = {-1, 5, 9, 18, MIN, MAX};
        for (int what : outside) {
            due("7 what " + what, x.day(1, 2, 0, 1, what), -2);
        }
        due("7 cast", x.day(1, 1, -1, 1, 0), -12);
        due("7 index", x.day(1, 2, 3, 1, 0), -13);
        due("7 index", x.day(1, 2, -1, 0, 0), -13);
        due("7 index", x.day(1, 2, MAX, 20, 0), -13);
        due("7 a pair that is outside ahead of one that can't be", x.day(1, 2, 0, 2, 0), -2);
        due("7 it is not taken", x.day(1, 2, 0, 1, 0), -100);
        int[][] pairs = {
            {0, 8}, {0, 9}, {0, 18}, {0, -1}, {10, 10}, {-1, 17}, {7, 8}, {7, 0}, {-1, 0}, {8, 7}, {7, 0, 0, 8},
            {0, 8, 7, 0}
        };
        int[] want = {-2, -2, -2, -2, -2, -2, -2, -1, -1, -1, -1, -2};
        for (int k = 0; k < pairs.length; k++) {
            Checks.fill(x, 1, pairs[k]);
            due("7 pairs " + k, x.day(1, 2, 0, pairs[k].length / 2, 1), want[k]);
        }
    }

    private static void promises8And9() {
        VineRows x = with(SEVEN);
        int[] way = {0, 1, 3, 5, 2, 6, -9, -9};
        due("8 far", x.far(0, 6), 5);
        due("8 itself", x.far(4, 4), 0);
        for (int k = 0; k < 8; k++) {
            due("9 way", x.way(0, 6, k), way[k]);
            due("9 back", x.way(6, 0, k), k < 6 ? way[5 - k] : -9);
        }
        due("9 itself", x.way(3, 3, 0), 3);
        due("9 itself", x.way(3, 3, 1), -9);
        due("9 k", x.way(0, 6, 8), -2);
        due("9 k", x.way(0, 6, -1), -2);
        due("9 post ahead of k", x.way(0, 7, 8), -1);
        due("9 post", x.way(-1, 0, 0), -1);
        due("8 post", x.far(0, 7), -1);
        due("8 post", x.far(-1, 0), -1);
        due("8 long", with(PATH).far(0, 7), 7);
        due("9 long", with(PATH).way(0, 7, 7), 7);
    }

    private static void promise10() {
        due("10 middle", with(SEVEN).middle(0), 40);
        due("10 long", with(SEVEN).middle(1), 5);
        due("10 middle", with(PATH).middle(0), 24);
        due("10 long", with(PATH).middle(1), 7);
        due("10 middle", with(STAR).middle(0), 1);
        due("10 long", with(STAR).middle(1), 2);
        due("10 middle", with(TWO).middle(0), 3);
        due("10 what", with(TWO).middle(2), -2);
        due("10 what", new VineRows().middle(-1), -2);
        due("10 no vine", new VineRows().middle(1), -3);
    }

    private static void promise11() {
        due("11 number", with(SEVEN).number(), 3614);
        due("11 number", with(PATH).number(), 0123456);
        due("11 first", with(STAR).number(), 0);
        due("11 last", with("v8777777p0p0p0p0p0p0p0p0").number(), 262143);
        due("11 of two", with(TWO).number(), 0);
        due("11 no vine", new VineRows().number(), -3);
    }

    private static void promise12() {
        due("12 alike", with(SEVEN).alike(), 5040);
        due("12 path", with(PATH).alike(), 20160);
        due("12 star", with(STAR).alike(), 8);
        due("12 two", with(TWO).alike(), 1);
        due("12 two stars", with("v8000111p0p0p0p0p0p0p0p0").alike(), 560);
        due("12 three arms of two", with("v710203p0p0p0p0p0p0p0").alike(), 840);
        due("12 no vine", new VineRows().alike(), -3);
    }

    private static void promise13() {
        due("13 pairs", with(SEVEN).pairs(), 3);
        due("13 path", with(PATH).pairs(), 4);
        due("13 star", with(STAR).pairs(), 1);
        due("13 two", with(TWO).pairs(), 1);
        due("13 two stars", with("v8000111p0p0p0p0p0p0p0p0").pairs(), 2);
        due("13 no vine", new VineRows().pairs(), -3);
    }

    private static void promise14() {
        VineRows x = with(SEVEN);
        due("14 worth", x.loners(0), 19);
        due("14 the least of two sets", x.loners(1), 13);
        x.load(3, 5);
        due("14 worth", x.loners(0), 19);
        due("14 the only one", x.loners(1), 114);
        due("14 path of ones", with(PATH).loners(0), 4);
        due("14 path of ones", with(PATH).loners(1), 85);
        due("14 star", with(STAR).loners(0), 10 + 18 + 0 + 1 + 0 + 5 + 6);
        due("14 star, without those of no worth", with(STAR).loners(1), 2 + 4 + 16 + 64 + 128);
        due("14 of no worth", with("v2p0d0").loners(0), 0);
        due("14 of no worth", with("v2p0d0").loners(1), 0);
        due("14 all the most", with("v8000000p0d9d9d9d9d9d9d9").loners(0), 126);
        due("14 what", x.loners(2), -2);
        due("14 what", new VineRows().loners(-1), -2);
        due("14 no vine", new VineRows().loners(1), -3);
    }

    private static void promise15() {
        VineRows x = with(SEVEN);
        due("15 part", x.part(3, 5), 15);
        due("15 other part", x.part(5, 3), 23);
        due("15 end", x.part(0, 1), 3);
        due("15 all but the end", x.part(1, 0), 35);
        due("15 no twig", x.part(0, 3), -3);
        due("15 both the same", x.part(3, 3), -1);
        due("15 no post", x.part(7, 3), -1);
        due("15 no post", x.part(3, -1), -1);
        x.graft(0, 6);
        due("15 as it is now", x.part(5, 3), 26);
    }

    private static void promises16And17() {
        VineRows x = with(SEVEN);
        due("17 none", x.back(0), 0);
        due("17 too many", x.back(1), -2);
        for (int k = 0; k < 8; k++) {
            due("16 number", x.reading(k % 7, 0, k == 0 ? 0 : 200), k);
        }
        due("16 full", x.reading(0, 0, 0), -4);
        due("16 outside ahead of full", x.reading(0, 0, 201), -2);
        due("16 outside", x.reading(0, 0, -1), -2);
        due("16 no post ahead of outside", x.reading(7, 0, -1), -1);
        due("16 no post", x.reading(0, -1, 0), -1);
        due("16 still", x.many(3), 8);
        due("17 too many", x.back(9), -2);
        due("17 below", x.back(-1), -2);
        due("17 left", x.back(3), 5);
        due("16 goes on", x.reading(0, 0, 0), 5);
        due("17 all", x.back(6), 0);
        due("17 none left", x.many(3), 0);
    }

    private static void promise18() {
        VineRows x = with(SEVEN);
        due("18 all", x.loadings(2), 1023);
        x.reading(0, 2, 33);
        due("18 as it is", x.loadings(2), 1 << 5);
        due("18 on the way", x.loadings(1), 1 << 4);
        due("18 beside it", x.loadings(6), 1023);
        x.reading(2, 2, 11);
        due("18 no half", x.loadings(2), 0);
        due("18 never", x.loadings(6), 0);
        x.back(2);
        x.reading(2, 2, 12);
        x.reading(0, 2, 35);
        due("18 both", x.loadings(2), 1 << 6);
        due("18 no other alone", x.loadings(0), 0);
        x.reading(0, 1, 8);
        due("18 three", x.loadings(2), 1 << 6);
        x.reading(4, 4, 0);
        due("18 not so", x.loadings(2), 0);
        x.back(4);
        x.reading(0, 2, 24);
        x.graft(6, 0);
        due("18 as a told load is", x.loadings(5), 1);
        x.back(1);
        x.reading(6, 1, 12);
        due("18 on ways as they are now", x.loadings(0), 1 << 3);
        due("18 no post", x.loadings(7), -1);
        due("18 no post", x.loadings(-1), -1);
    }

    private static void promise19() {
        VineRows x = with("v400p1b3d0p0");
        due("19 all", x.kinds(0), 7);
        x.reading(0, 0, 2);
        due("19 broad or double", x.kinds(0), 6);
        due("19 no other alone", x.kinds(1), 0);
        x.back(1);
        x.reading(2, 2, 0);
        due("19 plain or double", x.kinds(2), 5);
        due("19 beside it", x.kinds(0), 7);
        x.reading(1, 3, 7);
        due("19 on a way", x.kinds(1), 4);
        x.back(1);
        x.reading(1, 3, 6);
        due("19 on a way, one more", x.kinds(0), 6);
        x.reading(0, 3, 1);
        due("19 two that can't both be", x.kinds(0), 0);
        due("19 no post", x.kinds(4), -1);
        due("19 no post", x.kinds(-1), -1);
    }

    private static void promise20() {
        VineRows x = with(STAR);
        long[][] want = {{0, 1}, {1, 4}, {1, 1}, {1, 1}};
        for (int d = 0; d < 4; d++) {
            due("20 upper " + d, x.odds(d, 0), want[d][0]);
            due("20 lower " + d, x.odds(d, 1), want[d][1]);
        }
        due("20 upper", with(SEVEN).odds(3, 0), 17);
        due("20 lower", with(SEVEN).odds(3, 1), 21);
        due("20 farthest", with(PATH).odds(6, 0), 27);
        due("20 all", with(PATH).odds(7, 0), 1);
        due("20 two", with(TWO).odds(0, 1), 1);
        due("20 d", x.odds(8, 0), LOST);
        due("20 d", x.odds(-1, 0), LOST);
        due("20 which", x.odds(0, 2), LOST);
        due("20 which", x.odds(0, -1), LOST);
        due("20 no vine", new VineRows().odds(0, 0), LOST);
    }

    private static void promise21() {
        VineRows x = new VineRows();
        due("21 none", x.sheet(0, 0, 0), 1);
        due("21 has a row", x.lose(0), 1);
        due("21 sixty", x.sheet(3, 2, 60), 1);
        due("21 last is 0", x.cell(3, 59, 2), 0);
        x.put(3, 59, 7);
        due("21 too many", x.sheet(3, 2, 61), -2);
        due("21 lane", x.sheet(3, 3, -1), -2);
        due("21 lane", x.sheet(3, -1, 0), -2);
        due("21 size", x.sheet(3, 2, -1), -14);
        due("21 fault", x.fault(), 4);
        due("21 size", x.sheet(3, 0, MIN), -14);
        due("21 sheet", x.sheet(4, 3, 0), -1);
        due("21 sheet", x.sheet(-1, 0, 0), -1);
        due("21 fault", x.fault(), 0);
        due("21 nothing changed", x.cell(3, 59, 2), 7);
        x.sheet(3, 2, 60);
        due("21 0 anew", x.cell(3, 59, 2), 0);
    }

    private static void promises22And23() {
        VineRows x = new VineRows();
        due("23 nothing", x.put(0, 0, 1), -11);
        due("22 fault stays", x.lose(0), 0);
        due("22 fault stays", x.fault(), 1);
        x.sheet(0, 0, 2);
        due("23 put", x.put(0, 1, 200), 1);
        due("23 cut", x.cell(0, 1, 0), -56);
        due("23 index", x.put(0, 2, 0), -13);
        due("23 index", x.put(0, -1, 0), -13);
        due("23 index", x.put(0, MAX, 0), -13);
        due("23 sheet", x.put(4, 9, 0), -1);
        due("23 fault", x.fault(), 0);
        x.sheet(1, 1, 1);
        x.put(1, 0, 0x18000);
        due("23 cut", x.cell(1, 0, 1), -32768);
        x.sheet(2, 2, 1);
        x.put(2, 0, MIN);
        due("23 whole", x.cell(2, 0, 2), MIN);
        due("22 had", x.lose(2), 1);
        due("22 had not", x.lose(2), 0);
        due("22 nothing", x.put(2, 0, 0), -11);
        due("22 sheet", x.lose(4), -1);
        due("22 sheet", x.lose(-1), -1);
    }

    private static void promise24() {
        VineRows x = new VineRows();
        due("24 nothing", x.cell(0, 0, 1), LOST);
        due("24 nothing is no CAST", x.fault(), 1);
        Checks.fill(x, 0, 5, -6);
        due("24 cell", x.cell(0, 1, 2), -6);
        due("24 fault", x.fault(), 0);
        due("24 cast ahead of index", x.cell(0, 2, 1), LOST);
        due("24 fault", x.fault(), 2);
        due("24 index", x.cell(0, 2, 2), LOST);
        due("24 fault", x.fault(), 3);
        due("24 index", x.cell(0, -1, 2), LOST);
        due("24 fault", x.fault(), 3);
        due("24 lane", x.cell(0, 0, 3), LOST);
        due("24 fault", x.fault(), 0);
        x.cell(0, 2, 2);
        due("24 sheet", x.cell(4, 0, 2), LOST);
        due("24 fault", x.fault(), 0);
    }

    private static void promise25() {
        VineRows x = new VineRows();
        Checks.fill(x, 0, 1, 2, 3, 4, 5);
        due("25 on", x.copy(0, 0, 0, 1, 4), 4);
        long[] want = {1, 1, 2, 3, 4};
        for (int i = 0; i < 5; i++) {
            due("25 as they were", x.cell(0, i, 2), want[i]);
        }
        due("25 back", x.copy(0, 2, 0, 0, 3), 3);
        due("25 as they were", x.cell(0, 0, 2), 2);
        due("25 as they were", x.cell(0, 2, 2), 4);
        due("25 nothing ahead of cast", x.copy(1, 9, 0, 0, 0), -11);
        due("25 other nothing", x.copy(0, 9, 1, 0, 0), -11);
        x.sheet(1, 1, 5);
        due("25 cast ahead of index", x.copy(0, 9, 1, 0, 0), -12);
        due("25 fault", x.fault(), 2);
        x.sheet(1, 2, 3);
        int[][] beyond = {
            {-1, 0, 0}, {6, 0, 0}, {0, -1, 0}, {0, 4, 0}, {0, 0, -1}, {0, 0, 4}, {3, 0, 3}, {1, 0, MAX}, {MAX, 0, 1},
            {0, MAX, MAX}
        };
        for (int[] a : beyond) {
            due("25 index", x.copy(0, a[0], 1, a[1], a[2]), -13);
        }
        due("25 nothing came", x.cell(1, 0, 2), 0);
        due("25 none at the end", x.copy(0, 5, 1, 3, 0), 0);
        due("25 all", x.copy(0, 2, 1, 0, 3), 3);
        due("25 there", x.cell(1, 0, 2), 4);
        due("25 sheet", x.copy(4, 0, 0, 0, 0), -1);
        due("25 sheet", x.copy(2, 0, 4, 0, 0), -1);
        due("25 fault", x.fault(), 0);
    }

    private static void promises26And27And29() {
        VineRows x = with(SEVEN);
        due("26 plain", x.tell(0), 3);
        due("29 trace", x.trace(), 1);
        due("27 plain", x.knock(3), 3);
        due("29 trace", x.trace(), 35);
        x = with(SEVEN);
        due("26 broad", x.tell(1), 104);
        due("29 trace", x.trace(), 2 * 31 + 1);
        x = with(SEVEN);
        due("27 broad", x.knock(1), 2);
        due("29 trace", x.trace(), 4);
        x = with(SEVEN);
        due("26 double", x.tell(2), 110);
        due("29 trace", x.trace(), ((3 * 31 + 2) * 31 + 1) * 31 + 1);
        x = with(SEVEN);
        due("27 double", x.knock(2), 80);
        due("29 trace", x.trace(), 5);
        due("26 no post", x.tell(7), -1);
        due("27 no post", x.knock(-1), -1);
        due("29 not left", x.trace(), 5);
        int wrapped = 5;
        for (int k = 0; k < 20; k++) {
            x.knock(6);
            wrapped = 31 * wrapped + 5;
        }
        due("29 wraps", x.trace(), wrapped);
    }

    private static void promise28() {
        VineRows x = with(SEVEN);
        int[][] want = {{1, -12, -12}, {1, 1, -12}, {1, 1, 1}};
        for (int p = 0; p < 3; p++) {
            for (int kind = 0; kind < 3; kind++) {
                due("28 as", x.as(p, kind), want[p][kind]);
                due("28 fault", x.fault(), want[p][kind] == 1 ? 0 : 2);
            }
        }
        x.as(0, 1);
        due("28 kind", x.as(0, 3), -2);
        due("28 fault", x.fault(), 0);
        due("28 kind", x.as(0, -1), -2);
        due("28 post ahead of kind", x.as(7, 3), -1);
    }

    private static void promise30() {
        VineRows x = with(SEVEN);
        due("30 cast", x.as(0, 2), -12);
        x.tell(0);
        x.graft(9, 9);
        x.odds(9, 9);
        x.lose(9);
        x.many(9);
        due("30 stays behind calls that name none", x.fault(), 2);
        due("30 stays when told", x.fault(), 2);
        x.vine(0, 0, 0, 1);
        due("30 a wrong text is none", x.fault(), 0);
        due("30 size", x.sheet(0, 0, -5), -14);
        x.day(0, 0, 0, 1, 5);
        due("30 refused", x.fault(), 0);
    }

    private static void promise31() {
        VineRows x = with(SEVEN);
        due("31 posts", x.many(0), 7);
        due("31 ends", x.many(2), 3);
        x.graft(0, 4);
        due("31 ends", x.many(2), 3);
        x.graft(0, 3);
        due("31 ends", x.many(2), 4);
        due("31 grafts", x.many(1), 2);
        Checks.fill(x, 1, 0, 4);
        x.day(1, 2, 0, 1, 0);
        due("31 none by a day", x.many(1), 2);
        x.reading(0, 0, 0);
        due("31 readings", x.many(3), 1);
        due("31 outside", x.many(4), -2);
        due("31 outside", x.many(-1), -2);
    }
}
