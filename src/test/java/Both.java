import java.util.Arrays;

/** Makes each call on a new VineRows and on the Model, and compares what they answer. */
final class Both implements Caller {
    final VineRows x = new VineRows();
    final Model m = new Model();
    private final StringBuilder told = new StringBuilder();
    private int calls = 0;

    boolean isUsedUp() {
        return calls == Calls.MOST;
    }

    /** There is room for one call more. */
    boolean isLast() {
        return calls == Calls.MOST - 1;
    }

    @Override public long call(String name, int... a) {
        if (isUsedUp()) {
            throw new IllegalStateException("a test asks more calls of one object than are promised");
        }
        calls++;
        long got = Calls.on(x, name, a);
        long want = due(name, Arrays.copyOf(a, 5));
        String call = Calls.told(name, a);
        told.append(call).append(' ');
        Checks.due(got == want ? call : "by the model: " + told, got, want);
        return want;
    }

    private long due(String name, int[] v) {
        switch (name) {
            case "vine": return m.vine(v[0], v[1], v[2], v[3]);
            case "ofPost": return m.ofPost(v[0], v[1]);
            case "load": return m.load(v[0], v[1]);
            case "row": return m.row(v[0]);
            case "graft": return m.graft(v[0], v[1]);
            case "day": return m.day(v[0], v[1], v[2], v[3], v[4]);
            case "far": return m.far(v[0], v[1]);
            case "way": return m.way(v[0], v[1], v[2]);
            case "middle": return m.middle(v[0]);
            case "number": return m.number();
            case "alike": return m.alike();
            case "pairs": return m.pairs();
            case "loners": return m.loners(v[0]);
            case "part": return m.part(v[0], v[1]);
            case "reading": return m.reading(v[0], v[1], v[2]);
            case "back": return m.back(v[0]);
            case "loadings": return m.loadings(v[0]);
            case "kinds": return m.kinds(v[0]);
            case "odds": return m.odds(v[0], v[1]);
            case "sheet": return m.sheet(v[0], v[1], v[2]);
            case "lose": return m.lose(v[0]);
            case "put": return m.put(v[0], v[1], v[2]);
            case "cell": return m.cell(v[0], v[1], v[2]);
            case "copy": return m.copy(v[0], v[1], v[2], v[3], v[4]);
            case "tell": return m.tell(v[0]);
            case "knock": return m.knock(v[0]);
            case "as": return m.as(v[0], v[1]);
            case "trace": return m.trace;
            case "fault": return m.fault;
            case "many": return m.many(v[0]);
            default: throw new IllegalArgumentException(name);
        }
    }
}
