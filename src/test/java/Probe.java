import java.util.ArrayList;
import java.util.List;

/** Asks an object for all that it has, each answer with its call; its readings are used up by that. */
final class Probe {
    private final Caller caller;
    private final List<String> answers = new ArrayList<>();

    private Probe(Caller caller) {
        this.caller = caller;
    }

    /** But for fault(), which is looked at ahead of this: calls for cells set it. */
    static List<String> of(Caller caller) {
        Probe probe = new Probe(caller);
        probe.vine();
        for (int k = 0; k < 4; k++) {
            probe.sheet(k);
        }
        probe.readings();
        return probe.answers;
    }

    private long ask(String name, int... a) {
        long answer = caller.call(name, a);
        answers.add(Calls.told(name, a) + " = " + answer);
        return answer;
    }

    private void vine() {
        ask("trace");
        for (int what = 0; what < 4; what++) {
            ask("many", what);
        }
        long posts = caller.call("many", 0);
        for (int p = 0; p < posts; p++) {
            for (int what = 0; what < 6; what++) {
                ask("ofPost", p, what);
            }
        }
        for (int k = 0; k < 6; k++) {
            ask("row", k);
        }
        ask("number");
        ask("pairs");
        for (int what = 0; what < 2; what++) {
            ask("loners", what);
            ask("middle", what);
        }
    }

    private void sheet(int k) {
        for (int lane = 0; lane < 3; lane++) {
            ask("cell", k, 0, lane);
            if (ask("fault") % 3 == 0) {
                int i = 1;
                while (ask("cell", k, i, lane) != Long.MIN_VALUE) {
                    i++;
                }
            }
        }
    }

    private void readings() {
        long posts = caller.call("many", 0);
        long left = caller.call("many", 3);
        while (left > 0) {
            for (int p = 0; p < posts; p++) {
                ask("loadings", p);
                ask("kinds", p);
            }
            left = ask("back", 1);
        }
    }
}
