import java.lang.reflect.Method;
import java.util.Set;
import java.util.TreeSet;

/** What the document says of all calls: the 512 calls, the order of REFUSALS and FAULTS, what they answer. */
public final class EdgeTermsTest {
    private static final Class<?>[] EDGES = {
        Edge1VineTest.class, Edge2GraftsTest.class, Edge3WaysTest.class, Edge4ReadingsTest.class, Edge5SheetsTest.class
    };

    public static void main(String[] args) throws Exception {
        Edges.runAll(EdgeTermsTest.class);
    }

    private static void promises1To31HaveTestsOfTheirOwn() {
        Set<Integer> numbers = new TreeSet<>();
        for (Class<?> tests : EDGES) {
            for (Method m : tests.getDeclaredMethods()) {
                if (m.getName().startsWith("promise")) {
                    numbers.add(Integer.valueOf(m.getName().replaceAll("promise(\\d+).*", "$1")));
                }
            }
        }
        for (int promise = 1; promise <= 31; promise++) {
            Checks.holds("promise " + promise + " has a test of its edges", numbers.contains(promise));
        }
    }

    private static void promises1To31ConstantsAreAsTold() {
        Checks.due("UNKNOWN", VineRows.UNKNOWN, -1);
        Checks.due("OUTSIDE", VineRows.OUTSIDE, -2);
        Checks.due("STATE", VineRows.STATE, -3);
        Checks.due("FULL", VineRows.FULL, -4);
        Checks.due("NONE is -9", VineRows.NONE, -9);
        Checks.due("LOST", VineRows.LOST, Long.MIN_VALUE);
    }

    /** As long as an object is used, its last call is answered as its first. */
    private static void promises1To31TheLastOf512Calls() {
        for (int k = 0; k < Calls.NAMES.length; k++) {
            Both both = Scene.BUSY.on(new Both());
            for (int turn = 0; !both.isLast(); turn++) {
                both.call(turn % 2 == 0 ? "graft" : "tell", turn % 2, 6);
            }
            int[] a = new int[Calls.COUNTS[k]];
            if (a.length > 1) {
                a[1] = 1;
            }
            both.call(Calls.NAMES[k], a);
            Checks.holds("the object is used up", both.isUsedUp());
        }
        Run grafted = Scene.vine(Scene.TWO).on(new Run());
        for (int call = 9; call < 512; call++) {
            grafted.call("graft", 0, 1);
        }
        Checks.due("the 512th call: many(1)", grafted.call("many", 1), 503);
    }

    /** A row that is made again and again takes no more room than the first. */
    private static void promise21RowsMadeAgainAndAgain() {
        Both both = new Both();
        for (int k = 0; !both.isLast(); k++) {
            both.call("sheet", k % 4, k % 3, 60);
        }
        both.call("cell", 3, 59, 0);
    }

    private static void promise2VinesMadeAgainAndAgain() {
        Both both = Scene.BUSY.on(new Both());
        while (!both.isLast()) {
            both.call("vine", 0, 0, 0, 21);
        }
        both.call("number");
    }
}
