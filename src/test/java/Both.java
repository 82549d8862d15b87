import java.util.Arrays;

/** Makes each call on a new VineRows and on the Model, and compares what they answer. */
final class Both {
    static final String[] NAMES = {
        "vine", "ofPost", "load", "row", "graft", "day", "far", "way", "middle", "number", "alike",
        "pairs", "loners", "part", "reading", "back", "loadings", "kinds", "odds", "sheet", "lose",
        "put", "cell", "copy", "tell", "knock", "as", "trace", "fault", "many"
    };
    static final int[] COUNTS = {
        4, 2, 2, 1, 2, 5, 2, 3, 1, 0, 0, 0, 1, 2, 3, 1, 1, 1, 2, 3, 1, 3, 3, 5, 1, 1, 2, 0, 0, 1
    };

    final VineRows x = new VineRows();
    final Model m = new Model();
    final StringBuilder told = new StringBuilder();
    int calls = 0;

    long call(String name, int... a) {
        int[] v = Arrays.copyOf(a, 5);
        long got = answer(name, v);
        long want = due(name, v);
        calls++;
        String call = name + Arrays.toString(a);
        told.append(call).append(' ');
        Checks.due(got == want ? call : told.toString(), got, want);
        return want;
    }

    private long answer(String name, int[] v) {
        switch (name) {
            case "vine": return x.vine(v[0], v[1], v[2], v[3]);
            case "ofPost": return x.ofPost(v[0], v[1]);
            case "load": return x.load(v[0], v[1]);
            case "row": return x.row(v[0]);
            case "graft": return x.graft(v[0], v[1]);
            case "day": return x.day(v[0], v[1], v[2], v[3], v[4]);
            case "far": return x.far(v[0], v[1]);
            case "way": return x.way(v[0], v[1], v[2]);
            case "middle": return x.middle(v[0]);
            case "number": return x.number();
            case "alike": return x.alike();
            case "pairs": return x.pairs();
            case "loners": return x.loners(v[0]);
            case "part": return x.part(v[0], v[1]);
            case "reading": return x.reading(v[0], v[1], v[2]);
            case "back": return x.back(v[0]);
            case "loadings": return x.loadings(v[0]);
            case "kinds": return x.kinds(v[0]);
            case "odds": return x.odds(v[0], v[1]);
            case "sheet": return x.sheet(v[0], v[1], v[2]);
            case "lose": return x.lose(v[0]);
            case "put": return x.put(v[0], v[1], v[2]);
            case "cell": return x.cell(v[0], v[1], v[2]);
            case "copy": return x.copy(v[0], v[1], v[2], v[3], v[4]);
            case "tell": return x.tell(v[0]);
            case "knock": return x.knock(v[0]);
            case "as": return x.as(v[0], v[1]);
            case "trace": return x.trace();
            case "fault": return x.fault();
            case "many": return x.many(v[0]);
            default: throw new IllegalArgumentException(name);
        }
    }

    private long due(String name, int[] v) {
        switch (name) {
            case "vine": return m.vine(v[0], v[1], v[2], v[3]);
            case "ofPost": return m.ofPost(v[0], v[1]);
            case "load": return m.load(v[0], v[1]);
            case "row": return m.row(v[0]);
            case "graft": return m.graft(v[0], v[1]);
            case "day": return m.day(v[0], v[1], v[2], v[3], v[4]);
            case "far": return m.far(v[0], v[1]);
            case "way": return m.way(v[0], v[1], v[2]);
            case "middle": return m.middle(v[0]);
            case "number": return m.number();
            case "alike": return m.alike();
            case "pairs": return m.pairs();
            case "loners": return m.loners(v[0]);
            case "part": return m.part(v[0], v[1]);
            case "reading": return m.reading(v[0], v[1], v[2]);
            case "back": return m.back(v[0]);
            case "loadings": return m.loadings(v[0]);
            case "kinds": return m.kinds(v[0]);
            case "odds": return m.odds(v[0], v[1]);
            case "sheet": return m.sheet(v[0], v[1], v[2]);
            case "lose": return m.lose(v[0]);
            case "put": return m.put(v[0], v[1], v[2]);
            case "cell": return m.cell(v[0], v[1], v[2]);
            case "copy": return m.copy(v[0], v[1], v[2], v[3], v[4]);
            case "tell": return m.tell(v[0]);
            case "knock": return m.knock(v[0]);
            case "as": return m.as(v[0], v[1]);
            case "trace": return m.trace;
            case "fault": return m.fault;
            case "many": return m.many(v[0]);
            default: throw new IllegalArgumentException(name);
        }
    }

    long plant(String text, int lane, int ahead) {
        call("sheet", 0, lane, ahead + text.length());
        for (int i = 0; i < text.length(); i++) {
            call("put", 0, ahead + i, text.charAt(i));
        }
        return call("vine", 0, lane, ahead, text.length());
    }
}
