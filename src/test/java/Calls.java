import java.util.Arrays;
import java.util.List;

/** The calls of the document's face, told by their names. */
final class Calls {
    /** What an object answers behind so many calls is free, so no test may ask for it. */
    static final int MOST = 512;
    static final String[] NAMES = {
        "vine", "ofPost", "load", "row", "graft", "day", "far", "way", "middle", "number", "alike",
        "pairs", "loners", "part", "reading", "back", "loadings", "kinds", "odds", "sheet", "lose",
        "put", "cell", "copy", "tell", "knock", "as", "trace", "fault", "many"
    };
    static final int[] COUNTS = {
        4, 2, 2, 1, 2, 5, 2, 3, 1, 0, 0, 0, 1, 2, 3, 1, 1, 1, 2, 3, 1, 3, 3, 5, 1, 1, 2, 0, 0, 1
    };
    private static final List<String> WITH_FAULTS = List.of("vine", "day", "sheet", "put", "cell", "copy", "as");

    static boolean namesFaults(String name) {
        return WITH_FAULTS.contains(name);
    }

    static String told(String name, int... a) {
        String list = Arrays.toString(a);
        return name + "(" + list.substring(1, list.length() - 1) + ")";
    }

    /** Puts a text into a new row of sheet 0, behind so many cells, and takes it as a vine. */
    static long plant(Caller c, String text, int lane, int ahead) {
        c.call("sheet", 0, lane, ahead + text.length());
        for (int i = 0; i < text.length(); i++) {
            c.call("put", 0, ahead + i, text.charAt(i));
        }
        return c.call("vine", 0, lane, ahead, text.length());
    }

    static long on(VineRows x, String name, int... a) {
        int[] v = Arrays.copyOf(a, 5);
        switch (name) {
            case "vine": return x.vine(v[0], v[1], v[2], v[3]);
            case "ofPost": return x.ofPost(v[0], v[1]);
            case "load": return x.load(v[0], v[1]);
            case "row": return x.row(v[0]);
            case "graft": return x.graft(v[0], v[1]);
            case "day": return x.day(v[0], v[1], v[2], v[3], v[4]);
            case "far": return x.far(v[0], v[1]);
            case "way": return x.way(v[0], v[1], v[2]);
            case "middle": return x.middle(v[0]);
            case "number": return x.number();
            case "alike": return x.alike();
            case "pairs": return x.pairs();
            case "loners": return x.loners(v[0]);
            case "part": return x.part(v[0], v[1]);
            case "reading": return x.reading(v[0], v[1], v[2]);
            case "back": return x.back(v[0]);
            case "loadings": return x.loadings(v[0]);
            case "kinds": return x.kinds(v[0]);
            case "odds": return x.odds(v[0], v[1]);
            case "sheet": return x.sheet(v[0], v[1], v[2]);
            case "lose": return x.lose(v[0]);
            case "put": return x.put(v[0], v[1], v[2]);
            case "cell": return x.cell(v[0], v[1], v[2]);
            case "copy": return x.copy(v[0], v[1], v[2], v[3], v[4]);
            case "tell": return x.tell(v[0]);
            case "knock": return x.knock(v[0]);
            case "as": return x.as(v[0], v[1]);
            case "trace": return x.trace();
            case "fault": return x.fault();
            case "many": return x.many(v[0]);
            default: throw new IllegalArgumentException(name);
        }
    }
}
