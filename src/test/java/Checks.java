/** Counts answers that are not as due, and what the tests need again and again. */
final class Checks {
    private static int wrong = 0;
    private static int asked = 0;

    static void due(String call, long got, long want) {
        asked++;
        if (got != want) {
            wrong++;
            System.out.println(call + " answered " + got + ", due is " + want);
        }
    }

    static void holds(String what, boolean so) {
        due(what, so ? 1 : 0, 1);
    }

    static boolean anyWrong() {
        return wrong != 0;
    }

    static void finish(String name) {
        System.out.println(name + ": " + asked + " answers, " + wrong + " not as due");
        if (wrong != 0) {
            System.exit(1);
        }
    }

    /** Puts a text into a new row of a sheet and takes it as a vine. */
    static int plant(VineRows x, String text) {
        x.sheet(0, 0, text.length());
        for (int i = 0; i < text.length(); i++) {
            x.put(0, i, text.charAt(i));
        }
        return x.vine(0, 0, 0, text.length());
    }

    /** Makes a sheet of ints of just these cells. */
    static void fill(VineRows x, int k, int... cells) {
        x.sheet(k, 2, cells.length);
        for (int i = 0; i < cells.length; i++) {
            x.put(k, i, cells[i]);
        }
    }
}
