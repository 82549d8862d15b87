import java.util.ArrayList;
import java.util.Arrays;
import java.util.HashSet;
import java.util.List;
import java.util.Set;

/**
 * The document once more, in the slowest and plainest way, to compare answers with. It searches where
 * the class computes, and lets the machine itself find the faults: it is a test, not the class.
 */
final class Model {
    static final int UNKNOWN = -1, OUTSIDE = -2, STATE = -3, FULL = -4, NONE = -9;
    static final long LOST = Long.MIN_VALUE;

    class Plain {
        int load;

        int worth() {
            return load;
        }

        int tell() {
            begins(1);
            return load;
        }

        int knock(int twigs) {
            begins(4);
            return twigs;
        }
    }

    class Broad extends Plain {
        @Override int worth() {
            return load + 1;
        }

        @Override int tell() {
            begins(2);
            return super.tell() + 100;
        }

        int plainTell() {
            return super.tell();
        }
    }

    class Twice extends Broad {
        @Override int worth() {
            return 2 * load;
        }

        @Override int tell() {
            begins(3);
            return super.tell() + plainTell();
        }

        @Override int knock(int twigs) {
            begins(5);
            return 80;
        }
    }

    List<Plain> posts = new ArrayList<>();
    List<int[]> twigs = new ArrayList<>();
    List<int[]> readings = new ArrayList<>();
    Object[] sheets = new Object[4];
    int grafts, trace, fault;

    void begins(int body) {
        trace = 31 * trace + body;
    }

    // What is about twigs alone.

    static int[] ends(List<int[]> twigs, int n) {
        int[] count = new int[n];
        for (int[] t : twigs) {
            count[t[0]]++;
            count[t[1]]++;
        }
        return count;
    }

    static List<Integer> rowOf(List<int[]> all, int n) {
        List<int[]> twigs = new ArrayList<>(all);
        List<Integer> row = new ArrayList<>();
        while (twigs.size() > 1) {
            int[] count = ends(twigs, n);
            int least = 0;
            while (count[least] != 1) {
                least++;
            }
            for (int[] t : new ArrayList<>(twigs)) {
                if (t[0] == least || t[1] == least) {
                    row.add(t[0] + t[1] - least);
                    twigs.remove(t);
                }
            }
        }
        return row;
    }

    static List<int[]> twigsOf(List<Integer> row, int n) {
        List<int[]> twigs = new ArrayList<>();
        Set<Integer> left = new HashSet<>();
        for (int p = 0; p < n; p++) {
            left.add(p);
        }
        for (int k = 0; k < row.size(); k++) {
            int least = 0;
            while (!left.contains(least) || row.subList(k, row.size()).contains(least)) {
                least++;
            }
            twigs.add(new int[] {least, row.get(k)});
            left.remove(least);
        }
        List<Integer> two = new ArrayList<>(left);
        twigs.add(new int[] {two.get(0), two.get(1)});
        return twigs;
    }

    static List<Integer> wayOf(List<int[]> twigs, int a, int b, int from) {
        List<Integer> way = new ArrayList<>();
        way.add(a);
        if (a == b) {
            return way;
        }
        for (int[] t : twigs) {
            if (t[0] != a && t[1] != a) {
                continue;
            }
            int next = t[0] + t[1] - a;
            List<Integer> rest = next == from ? null : wayOf(twigs, next, b, a);
            if (rest != null) {
                way.addAll(rest);
                return way;
            }
        }
        return null;
    }

    static int farOf(List<int[]> twigs, int a, int b) {
        return wayOf(twigs, a, b, -1).size() - 1;
    }

    static int hangingOn(List<int[]> twigs, int p) {
        int set = 0;
        for (int[] t : twigs) {
            if (t[0] == p || t[1] == p) {
                set |= 1 << (t[0] + t[1] - p);
            }
        }
        return set;
    }

    static int farthest(List<int[]> twigs, int n, int p) {
        int most = 0;
        for (int q = 0; q < n; q++) {
            most = Math.max(most, farOf(twigs, p, q));
        }
        return most;
    }

    static int longest(List<int[]> twigs, int n) {
        int most = 0;
        for (int p = 0; p < n; p++) {
            most = Math.max(most, farthest(twigs, n, p));
        }
        return most;
    }

    static int numberOf(List<int[]> twigs, int n) {
        List<Integer> row = rowOf(twigs, n);
        int ahead = 0;
        for (int k = 0; k < row.size(); k++) {
            int rest = 1;
            for (int m = k + 1; m < row.size(); m++) {
                rest *= n;
            }
            ahead += row.get(k) * rest;
        }
        return ahead;
    }

    /** All numberings are made; the vines that come out are counted, each once. */
    static int alikeOf(List<int[]> twigs, int n) {
        Set<Long> seen = new HashSet<>();
        number(twigs, new int[n], 0, 0, seen);
        return seen.size();
    }

    private static void number(List<int[]> twigs, int[] to, int p, int used, Set<Long> seen) {
        if (p == to.length) {
            long vine = 0;
            for (int[] t : twigs) {
                int a = Math.min(to[t[0]], to[t[1]]);
                int b = Math.max(to[t[0]], to[t[1]]);
                vine |= 1L << (8 * a + b);
            }
            seen.add(vine);
            return;
        }
        for (int q = 0; q < to.length; q++) {
            if ((used >> q & 1) == 0) {
                to[p] = q;
                number(twigs, to, p + 1, used | 1 << q, seen);
            }
        }
    }

    int pairsOf() {
        int most = 0;
        for (int set = 0; set < 1 << twigs.size(); set++) {
            boolean apart = true;
            int used = 0;
            for (int k = 0; k < twigs.size(); k++) {
                if ((set >> k & 1) != 0) {
                    int both = 1 << twigs.get(k)[0] | 1 << twigs.get(k)[1];
                    apart &= (used & both) == 0;
                    used |= both;
                }
            }
            if (apart) {
                most = Math.max(most, Integer.bitCount(set));
            }
        }
        return most;
    }

    int worthOfSet(int set) {
        int sum = 0;
        for (int p = 0; p < posts.size(); p++) {
            sum += (set >> p & 1) != 0 ? posts.get(p).worth() : 0;
        }
        return sum;
    }

    int lonersOf() {
        int best = 0;
        for (int set = 0; set < 1 << posts.size(); set++) {
            boolean apart = true;
            for (int[] t : twigs) {
                apart &= (set >> t[0] & set >> t[1] & 1) == 0;
            }
            if (apart && worthOfSet(set) > worthOfSet(best)) {
                best = set;
            }
        }
        return best;
    }

    Plain make(int kind, int load) {
        Plain made = kind == 0 ? new Plain() : kind == 1 ? new Broad() : new Twice();
        made.load = load;
        return made;
    }

    int kindOf(int p) {
        Plain post = posts.get(p);
        return post instanceof Twice ? 2 : post instanceof Broad ? 1 : 0;
    }

    boolean no(int p) {
        return p < 0 || p >= posts.size();
    }

    // The machine finds the faults.

    int faultBy(RuntimeException e) {
        fault = e instanceof NullPointerException ? 1
            : e instanceof ClassCastException ? 2
            : e instanceof IndexOutOfBoundsException ? 3
            : e instanceof NegativeArraySizeException ? 4 : 99;
        return -10 - fault;
    }

    static Object taken(Object sheet, int lane) {
        switch (lane) {
            case 0: return (byte[]) sheet;
            case 1: return (short[]) sheet;
            default: return (int[]) sheet;
        }
    }

    static int at(Object row, int i) {
        if (row instanceof byte[]) {
            return ((byte[]) row)[i];
        }
        return row instanceof short[] ? ((short[]) row)[i] : ((int[]) row)[i];
    }

    static int lengthOf(Object row) {
        if (row == null) {
            throw new NullPointerException();
        }
        return row instanceof byte[] ? ((byte[]) row).length
            : row instanceof short[] ? ((short[]) row).length : ((int[]) row).length;
    }

    static int[] cells(Object sheet, int lane, int i, int n) {
        Object row = taken(sheet, lane);
        int length = lengthOf(row);
        int[] out = new int[Math.min(n, 60)];
        if (i < 0 || (long) i + n > length) {
            throw new IndexOutOfBoundsException();
        }
        for (int k = 0; k < n; k++) {
            out[k] = at(row, i + k);
        }
        return out;
    }

    static boolean badSheet(int k) {
        return k < 0 || k > 3;
    }

    static boolean badLane(int lane) {
        return lane < 0 || lane > 2;
    }

    // The calls.

    int vine(int sheet, int lane, int i, int n) {
        fault = 0;
        if (badSheet(sheet)) {
            return UNKNOWN;
        }
        if (badLane(lane)) {
            return OUTSIDE;
        }
        int[] text;
        try {
            text = cells(sheets[sheet], lane, i, n);
        } catch (RuntimeException e) {
            return faultBy(e);
        }
        int wrong = firstFault(text);
        return wrong >= 0 ? -100 - wrong : plant(text);
    }

    /** The longest beginning that some text has: tried out code by code, against the form told. */
    private static int firstFault(int[] text) {
        String form = "v";
        for (int k = 0; k < text.length; k++) {
            if (k >= form.length()) {
                return k;
            }
            int c = text[k];
            boolean fits;
            switch (form.charAt(k)) {
                case 'v': fits = c == 118; form = "vn"; break;
                case 'n':
                    fits = c >= 50 && c <= 56;
                    int n = c - 48;
                    for (int m = 0; fits && m < n - 2; m++) {
                        form += "r";
                    }
                    for (int m = 0; fits && m < n; m++) {
                        form += "kl";
                    }
                    break;
                case 'r': fits = c >= 48 && c < text[1]; break;
                case 'k': fits = c == 112 || c == 98 || c == 100; break;
                default: fits = c >= 48 && c <= 57; break;
            }
            if (!fits) {
                return k;
            }
        }
        return text.length < form.length() ? text.length : -1;
    }

    private int plant(int[] text) {
        int n = text[1] - 48;
        List<Integer> row = new ArrayList<>();
        int k = 2;
        for (; k < n; k++) {
            row.add(text[k] - 48);
        }
        posts.clear();
        for (; k < text.length; k += 2) {
            posts.add(make(text[k] == 112 ? 0 : text[k] == 98 ? 1 : 2, text[k + 1] - 48));
        }
        twigs = twigsOf(row, n);
        readings.clear();
        grafts = 0;
        return n;
    }

    int ofPost(int p, int what) {
        if (no(p)) {
            return UNKNOWN;
        }
        switch (what) {
            case 0: return kindOf(p);
            case 1: return posts.get(p).load;
            case 2: return posts.get(p).worth();
            case 3: return ends(twigs, posts.size())[p];
            case 4: return hangingOn(twigs, p);
            case 5: return farthest(twigs, posts.size(), p);
            default: return OUTSIDE;
        }
    }

    int load(int p, int v) {
        if (no(p)) {
            return UNKNOWN;
        }
        if (v < 0 || v > 9) {
            return OUTSIDE;
        }
        int was = posts.get(p).load;
        posts.get(p).load = v;
        return was;
    }

    int row(int k) {
        if (k < 0 || k > 5) {
            return OUTSIDE;
        }
        if (posts.isEmpty()) {
            return STATE;
        }
        List<Integer> row = rowOf(twigs, posts.size());
        return k < row.size() ? row.get(k) : NONE;
    }

    static int move(List<int[]> twigs, int p, int on) {
        for (int[] t : new ArrayList<>(twigs)) {
            if (t[0] == p || t[1] == p) {
                twigs.remove(t);
                twigs.add(new int[] {p, on});
                return t[0] + t[1] - p;
            }
        }
        return NONE;
    }

    int graft(int p, int on) {
        if (no(p) || no(on) || p == on) {
            return UNKNOWN;
        }
        if (ends(twigs, posts.size())[p] > 1) {
            return STATE;
        }
        grafts++;
        return move(twigs, p, on);
    }

    int day(int sheet, int lane, int i, int n, int what) {
        fault = 0;
        if (badSheet(sheet)) {
            return UNKNOWN;
        }
        boolean told = Arrays.asList(0, 1, 2, 3, 4, 10, 11, 12, 13, 14, 15, 16, 17).contains(what);
        if (badLane(lane) || n < 0 || n > 20 || !told) {
            return OUTSIDE;
        }
        int[] acts;
        try {
            acts = cells(sheets[sheet], lane, i, 2 * n);
        } catch (RuntimeException e) {
            return faultBy(e);
        }
        if (posts.isEmpty()) {
            return STATE;
        }
        for (int k = 0; k < acts.length; k += 2) {
            int first = acts[k];
            int second = acts[k + 1];
            boolean hang = second >= 0 && second <= 7;
            boolean lay = second >= 10 && second <= 17;
            if (!hang && !lay || lay && (first < 0 || first > 9)) {
                return OUTSIDE;
            }
            if (hang && no(first)) {
                return UNKNOWN;
            }
        }
        return dayOf(acts, what);
    }

    private int dayOf(int[] acts, int what) {
        int n = posts.size();
        List<int[]> then = new ArrayList<>(twigs);
        List<Plain> later = new ArrayList<>();
        for (int p = 0; p < n; p++) {
            later.add(make(kindOf(p), posts.get(p).load));
        }
        for (int k = 0; k < acts.length / 2; k++) {
            int first = acts[2 * k];
            int second = acts[2 * k + 1];
            boolean wrong = second >= 10 ? no(second - 10)
                : no(second) || first == second || ends(then, n)[first] > 1;
            if (wrong) {
                return what == 1 ? k : -100 - k;
            }
            if (second >= 10) {
                later.get(second - 10).load = first;
            } else {
                move(then, first, second);
            }
        }
        return asked(what, then, later);
    }

    private int asked(int what, List<int[]> then, List<Plain> later) {
        int n = later.size();
        int sum = 0;
        switch (what) {
            case 0: return longest(then, n);
            case 1: return NONE;
            case 2: return numberOf(then, n);
            case 3:
                for (int p = 0; p < n; p++) {
                    sum |= ends(then, n)[p] == 1 ? 1 << p : 0;
                }
                return sum;
            case 4:
                for (Plain post : later) {
                    sum += post.worth();
                }
                return sum;
            default: return no(what - 10) ? NONE : hangingOn(then, what - 10);
        }
    }

    int far(int a, int b) {
        return no(a) || no(b) ? UNKNOWN : farOf(twigs, a, b);
    }

    int way(int a, int b, int k) {
        if (no(a) || no(b)) {
            return UNKNOWN;
        }
        if (k < 0 || k > 7) {
            return OUTSIDE;
        }
        List<Integer> way = wayOf(twigs, a, b, -1);
        return k < way.size() ? way.get(k) : NONE;
    }

    int middle(int what) {
        if (what != 0 && what != 1) {
            return OUTSIDE;
        }
        int n = posts.size();
        if (n == 0) {
            return STATE;
        }
        if (what == 1) {
            return longest(twigs, n);
        }
        int set = 0;
        for (int p = 0; p < n; p++) {
            boolean nearest = true;
            for (int q = 0; q < n; q++) {
                nearest &= farthest(twigs, n, p) <= farthest(twigs, n, q);
            }
            set |= nearest ? 1 << p : 0;
        }
        return set;
    }

    int number() {
        return posts.isEmpty() ? STATE : numberOf(twigs, posts.size());
    }

    int alike() {
        return posts.isEmpty() ? STATE : alikeOf(twigs, posts.size());
    }

    int pairs() {
        return posts.isEmpty() ? STATE : pairsOf();
    }

    int loners(int what) {
        if (what != 0 && what != 1) {
            return OUTSIDE;
        }
        if (posts.isEmpty()) {
            return STATE;
        }
        return what == 0 ? worthOfSet(lonersOf()) : lonersOf();
    }

    int part(int a, int b) {
        if (no(a) || no(b) || a == b) {
            return UNKNOWN;
        }
        if ((hangingOn(twigs, a) >> b & 1) == 0) {
            return STATE;
        }
        int sum = 0;
        for (int p = 0; p < posts.size(); p++) {
            sum += wayOf(twigs, p, b, -1).contains(a) ? posts.get(p).worth() : 0;
        }
        return sum;
    }

    int reading(int a, int b, int v) {
        if (no(a) || no(b)) {
            return UNKNOWN;
        }
        if (v < 0 || v > 200) {
            return OUTSIDE;
        }
        if (readings.size() == 8) {
            return FULL;
        }
        readings.add(new int[] {a, b, v});
        return readings.size() - 1;
    }

    int back(int n) {
        if (n < 0 || n > readings.size()) {
            return OUTSIDE;
        }
        for (int k = 0; k < n; k++) {
            readings.remove(readings.size() - 1);
        }
        return readings.size();
    }

    private boolean allSo() {
        for (int[] r : readings) {
            int sum = 0;
            for (int p : wayOf(twigs, r[0], r[1], -1)) {
                sum += posts.get(p).worth();
            }
            if (sum != r[2]) {
                return false;
            }
        }
        return true;
    }

    int loadings(int p) {
        if (no(p)) {
            return UNKNOWN;
        }
        int was = posts.get(p).load;
        int set = 0;
        for (int v = 0; v < 10; v++) {
            posts.get(p).load = v;
            set |= allSo() ? 1 << v : 0;
        }
        posts.get(p).load = was;
        return set;
    }

    int kinds(int p) {
        if (no(p)) {
            return UNKNOWN;
        }
        Plain was = posts.get(p);
        int set = 0;
        for (int kind = 0; kind < 3; kind++) {
            posts.set(p, make(kind, was.load));
            set |= allSo() ? 1 << kind : 0;
        }
        posts.set(p, was);
        return set;
    }

    long odds(int d, int which) {
        if (d < 0 || d > 7 || which < 0 || which > 1 || posts.isEmpty()) {
            return LOST;
        }
        long near = 0;
        long all = 0;
        for (int p = 0; p < posts.size(); p++) {
            for (int q = 0; q < posts.size(); q++) {
                all += p != q ? 1 : 0;
                near += p != q && farOf(twigs, p, q) <= d ? 1 : 0;
            }
        }
        long a = all;
        long b = near;
        while (b != 0) {
            long rest = a % b;
            a = b;
            b = rest;
        }
        return (which == 0 ? near : all) / a;
    }

    int sheet(int k, int lane, int n) {
        fault = 0;
        if (badSheet(k)) {
            return UNKNOWN;
        }
        if (badLane(lane) || n > 60) {
            return OUTSIDE;
        }
        try {
            sheets[k] = lane == 0 ? new byte[n] : lane == 1 ? new short[n] : new int[n];
        } catch (RuntimeException e) {
            return faultBy(e);
        }
        return 1;
    }

    int lose(int k) {
        if (badSheet(k)) {
            return UNKNOWN;
        }
        boolean had = sheets[k] != null;
        sheets[k] = null;
        return had ? 1 : 0;
    }

    int put(int k, int i, int v) {
        fault = 0;
        if (badSheet(k)) {
            return UNKNOWN;
        }
        try {
            lengthOf(sheets[k]);
            if (sheets[k] instanceof byte[]) {
                ((byte[]) sheets[k])[i] = (byte) v;
            } else if (sheets[k] instanceof short[]) {
                ((short[]) sheets[k])[i] = (short) v;
            } else {
                ((int[]) sheets[k])[i] = v;
            }
        } catch (RuntimeException e) {
            return faultBy(e);
        }
        return 1;
    }

    long cell(int k, int i, int lane) {
        fault = 0;
        if (badSheet(k) || badLane(lane)) {
            return LOST;
        }
        try {
            Object row = taken(sheets[k], lane);
            lengthOf(row);
            return at(row, i);
        } catch (RuntimeException e) {
            faultBy(e);
            return LOST;
        }
    }

    int copy(int k, int i, int other, int j, int n) {
        fault = 0;
        if (badSheet(k) || badSheet(other)) {
            return UNKNOWN;
        }
        try {
            lengthOf(sheets[k]);
            lengthOf(sheets[other]);
            if (sheets[k].getClass() != sheets[other].getClass()) {
                throw new ClassCastException();
            }
            System.arraycopy(sheets[k], i, sheets[other], j, n);
        } catch (RuntimeException e) {
            return faultBy(e);
        }
        return n;
    }

    int tell(int p) {
        return no(p) ? UNKNOWN : posts.get(p).tell();
    }

    int knock(int p) {
        return no(p) ? UNKNOWN : posts.get(p).knock(ends(twigs, posts.size())[p]);
    }

    int as(int p, int kind) {
        fault = 0;
        if (no(p)) {
            return UNKNOWN;
        }
        if (kind < 0 || kind > 2) {
            return OUTSIDE;
        }
        try {
            Plain post = posts.get(p);
            Plain same = kind == 2 ? (Twice) post : kind == 1 ? (Broad) post : post;
            return same == post ? 1 : 0;
        } catch (RuntimeException e) {
            return faultBy(e);
        }
    }

    int many(int what) {
        switch (what) {
            case 0: return posts.size();
            case 1: return grafts;
            case 2:
                int count = 0;
                for (int has : ends(twigs, posts.size())) {
                    count += has == 1 ? 1 : 0;
                }
                return posts.isEmpty() ? 0 : count;
            case 3: return readings.size();
            default: return OUTSIDE;
        }
    }
}
