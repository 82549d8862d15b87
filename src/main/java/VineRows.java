/**
 * Vines told by a row of numbers: posts of kinds with loads, joined by twigs, all of one piece and
 * nowhere round. Every array is made with the object and used again, so no call makes anything.
 */
public final class VineRows {
    public static final int UNKNOWN = -1, OUTSIDE = -2, STATE = -3, FULL = -4, NONE = -9;
    public static final long LOST = Long.MIN_VALUE;

    private static final int NULL = 1, CAST = 2, INDEX = 3, SIZE = 4;
    private static final int PLAIN = 0, BROAD = 1, DOUBLE = 2;
    private static final int BYTES = 0, SHORTS = 1, INTS = 2, NOTHING = -1;
    private static final int MOST_POSTS = 8, MOST_LOAD = 9, MOST_PAIRS = 20;
    private static final int MOST_READINGS = 8, MOST_READ = 200;
    private static final int SHEETS = 4, MOST_CELLS = 60;
    /** Above every set of POSTS, so that WORTH and a set fit into one number. */
    private static final int SETS = 1 << MOST_POSTS;
    /** What all READINGS together ask of a POST's WORTH, where that is no single number. */
    private static final int ANY = -1, NEVER = -2;

    private final Vine now = new Vine();
    private final Vine trial = new Vine();
    private final Shape shape = new Shape();
    private final Readings readings = new Readings();
    private final Sheet[] sheets = new Sheet[SHEETS];
    private int grafts;
    private int steps;
    private int latestFault;

    public VineRows() {
        for (int k = 0; k < SHEETS; k++) {
            sheets[k] = new Sheet();
        }
    }

    // ---- 1 the vine

    public int vine(int sheet, int lane, int i, int n) {
        latestFault = 0;
        if (!isSheet(sheet)) {
            return UNKNOWN;
        }
        if (!isLane(lane)) {
            return OUTSIDE;
        }
        Sheet from = sheets[sheet];
        int wrong = from.faultAs(lane);
        if (wrong == 0 && n < 0) {
            wrong = SIZE;
        }
        if (wrong == 0 && !from.has(i, n)) {
            wrong = INDEX;
        }
        if (wrong != 0) {
            return faulted(wrong);
        }
        int place = Text.firstFault(from, i, n);
        if (place != NONE) {
            return -100 - place;
        }
        now.grow(from, i);
        grafts = 0;
        readings.count = 0;
        return now.posts;
    }

    public int ofPost(int p, int what) {
        if (!now.isPost(p)) {
            return UNKNOWN;
        }
        switch (what) {
            case 0: return now.kinds[p];
            case 1: return now.loads[p];
            case 2: return now.worth(p);
            case 3: return Integer.bitCount(now.twigs[p]);
            case 4: return now.twigs[p];
            case 5: return now.farthest(p);
            default: return OUTSIDE;
        }
    }

    public int load(int p, int v) {
        if (!now.isPost(p)) {
            return UNKNOWN;
        }
        if (v < 0 || v > MOST_LOAD) {
            return OUTSIDE;
        }
        int was = now.loads[p];
        now.loads[p] = v;
        return was;
    }

    public int row(int k) {
        if (k < 0 || k > MOST_POSTS - 3) {
            return OUTSIDE;
        }
        if (now.posts == 0) {
            return STATE;
        }
        if (k >= now.posts - 2) {
            return NONE;
        }
        now.strip();
        return now.hung[k];
    }

    // ---- 2 grafts

    public int graft(int p, int on) {
        if (!now.isPost(p) || !now.isPost(on) || p == on) {
            return UNKNOWN;
        }
        if (!now.isEnd(p)) {
            return STATE;
        }
        grafts++;
        return now.hangOn(p, on);
    }

    public int day(int sheet, int lane, int i, int n, int what) {
        latestFault = 0;
        if (!isSheet(sheet)) {
            return UNKNOWN;
        }
        if (!isLane(lane) || n < 0 || n > MOST_PAIRS || !isOfDay(what)) {
            return OUTSIDE;
        }
        Sheet from = sheets[sheet];
        int wrong = from.faultAs(lane);
        if (wrong == 0 && !from.has(i, 2 * n)) {
            wrong = INDEX;
        }
        if (wrong != 0) {
            return faulted(wrong);
        }
        if (now.posts == 0) {
            return STATE;
        }
        int refusal = refusalOfPairs(from, i, n);
        if (refusal != 0) {
            return refusal;
        }
        int first = firstWrong(from, i, n);
        if (what == 1) {
            return first;
        }
        return first == NONE ? ofTrial(what) : -100 - first;
    }

    private static boolean isOfDay(int what) {
        return what >= 0 && what <= 4 || what >= 10 && what < 10 + MOST_POSTS;
    }

    private int refusalOfPairs(Sheet from, int i, int n) {
        for (int k = 0; k < n; k++) {
            int refusal = refusalOfPair(from.at(i + 2 * k), from.at(i + 2 * k + 1));
            if (refusal != 0) {
                return refusal;
            }
        }
        return 0;
    }

    private int refusalOfPair(int first, int second) {
        if (second >= 10 && second < 10 + MOST_POSTS) {
            return first < 0 || first > MOST_LOAD ? OUTSIDE : 0;
        }
        if (second < 0 || second >= MOST_POSTS) {
            return OUTSIDE;
        }
        return now.isPost(first) ? 0 : UNKNOWN;
    }

    /** Leaves in trial how all is behind the last act that can be. */
    private int firstWrong(Sheet from, int i, int n) {
        trial.become(now);
        for (int k = 0; k < n; k++) {
            if (!tried(from.at(i + 2 * k), from.at(i + 2 * k + 1))) {
                return k;
            }
        }
        return NONE;
    }

    private boolean tried(int first, int second) {
        if (second >= 10) {
            int p = second - 10;
            if (!trial.isPost(p)) {
                return false;
            }
            trial.loads[p] = first;
            return true;
        }
        if (!trial.isPost(first) || !trial.isPost(second) || first == second || !trial.isEnd(first)) {
            return false;
        }
        trial.hangOn(first, second);
        return true;
    }

    private int ofTrial(int what) {
        switch (what) {
            case 0: return trial.longest();
            case 2: return trial.numberOfRow();
            case 3: return trial.ends();
            case 4: return trial.worthOfAll();
            default: return trial.isPost(what - 10) ? trial.twigs[what - 10] : NONE;
        }
    }

    // ---- 3 ways, shapes

    public int far(int a, int b) {
        return now.isPost(a) && now.isPost(b) ? now.away[a][b] : UNKNOWN;
    }

    public int way(int a, int b, int k) {
        if (!now.isPost(a) || !now.isPost(b)) {
            return UNKNOWN;
        }
        if (k < 0 || k >= MOST_POSTS) {
            return OUTSIDE;
        }
        for (int p = 0; p < now.posts; p++) {
            if (now.away[a][p] == k && now.isOnWay(a, b, p)) {
                return p;
            }
        }
        return NONE;
    }

    public int middle(int what) {
        if (what < 0 || what > 1) {
            return OUTSIDE;
        }
        if (now.posts == 0) {
            return STATE;
        }
        return what == 0 ? now.middles() : now.longest();
    }

    public int number() {
        return now.posts == 0 ? STATE : now.numberOfRow();
    }

    public int alike() {
        return now.posts == 0 ? STATE : shape.sameShape(now);
    }

    public int pairs() {
        return now.posts == 0 ? STATE : now.twigsApart();
    }

    public int loners(int what) {
        if (what < 0 || what > 1) {
            return OUTSIDE;
        }
        if (now.posts == 0) {
            return STATE;
        }
        int best = now.bestApart();
        int worth = (best + SETS - 1) / SETS;
        return what == 0 ? worth : worth * SETS - best;
    }

    public int part(int a, int b) {
        if (!now.isPost(a) || !now.isPost(b) || a == b) {
            return UNKNOWN;
        }
        if (now.away[a][b] != 1) {
            return STATE;
        }
        int sum = 0;
        for (int p = 0; p < now.posts; p++) {
            if (now.isOnWay(p, b, a)) {
                sum += now.worth(p);
            }
        }
        return sum;
    }

    // ---- 4 what is on ways

    public int reading(int a, int b, int v) {
        if (!now.isPost(a) || !now.isPost(b)) {
            return UNKNOWN;
        }
        if (v < 0 || v > MOST_READ) {
            return OUTSIDE;
        }
        if (readings.count >= MOST_READINGS) {
            return FULL;
        }
        return readings.take(a, b, v);
    }

    public int back(int n) {
        if (n < 0 || n > readings.count) {
            return OUTSIDE;
        }
        readings.count -= n;
        return readings.count;
    }

    public int loadings(int p) {
        if (!now.isPost(p)) {
            return UNKNOWN;
        }
        int asked = readings.askedOf(now, p);
        int set = 0;
        for (int v = 0; v <= MOST_LOAD; v++) {
            if (asked == ANY || asked == worthOf(now.kinds[p], v)) {
                set |= 1 << v;
            }
        }
        return set;
    }

    public int kinds(int p) {
        if (!now.isPost(p)) {
            return UNKNOWN;
        }
        int asked = readings.askedOf(now, p);
        int set = 0;
        for (int kind = PLAIN; kind <= DOUBLE; kind++) {
            if (asked == ANY || asked == worthOf(kind, now.loads[p])) {
                set |= 1 << kind;
            }
        }
        return set;
    }

    public long odds(int d, int which) {
        if (d < 0 || d >= MOST_POSTS || which < 0 || which > 1 || now.posts == 0) {
            return LOST;
        }
        int near = now.twosWithin(d);
        int all = now.posts * (now.posts - 1) / 2;
        int told = which == 0 ? near : all;
        for (int g = all; g > 1; g--) {
            if (near % g == 0 && all % g == 0) {
                return told / g;
            }
        }
        return told;
    }

    // ---- 5 sheets, parts

    public int sheet(int k, int lane, int n) {
        latestFault = 0;
        if (!isSheet(k)) {
            return UNKNOWN;
        }
        if (!isLane(lane) || n > MOST_CELLS) {
            return OUTSIDE;
        }
        if (n < 0) {
            return faulted(SIZE);
        }
        sheets[k].begin(lane, n);
        return 1;
    }

    public int lose(int k) {
        if (!isSheet(k)) {
            return UNKNOWN;
        }
        if (sheets[k].lane == NOTHING) {
            return 0;
        }
        sheets[k].begin(NOTHING, 0);
        return 1;
    }

    public int put(int k, int i, int v) {
        latestFault = 0;
        if (!isSheet(k)) {
            return UNKNOWN;
        }
        Sheet to = sheets[k];
        if (to.lane == NOTHING) {
            return faulted(NULL);
        }
        if (!to.has(i, 1)) {
            return faulted(INDEX);
        }
        to.cells[i] = to.cut(v);
        return 1;
    }

    public long cell(int k, int i, int lane) {
        latestFault = 0;
        if (!isSheet(k) || !isLane(lane)) {
            return LOST;
        }
        Sheet from = sheets[k];
        latestFault = from.faultAs(lane);
        if (latestFault == 0 && !from.has(i, 1)) {
            latestFault = INDEX;
        }
        return latestFault == 0 ? from.at(i) : LOST;
    }

    public int copy(int k, int i, int other, int j, int n) {
        latestFault = 0;
        if (!isSheet(k) || !isSheet(other)) {
            return UNKNOWN;
        }
        Sheet from = sheets[k];
        Sheet to = sheets[other];
        if (from.lane == NOTHING || to.lane == NOTHING) {
            return faulted(NULL);
        }
        if (from.lane != to.lane) {
            return faulted(CAST);
        }
        if (!from.has(i, n) || !to.has(j, n)) {
            return faulted(INDEX);
        }
        System.arraycopy(from.cells, i, to.cells, j, n);
        return n;
    }

    public int tell(int p) {
        if (!now.isPost(p)) {
            return UNKNOWN;
        }
        switch (now.kinds[p]) {
            case DOUBLE: return tellDouble(p);
            case BROAD: return tellBroad(p);
            default: return tellPlain(p);
        }
    }

    private int tellPlain(int p) {
        leave(1);
        return now.loads[p];
    }

    private int tellBroad(int p) {
        leave(2);
        return tellPlain(p) + 100;
    }

    private int tellDouble(int p) {
        leave(3);
        int broad = tellBroad(p);
        return broad + tellPlain(p);
    }

    public int knock(int p) {
        if (!now.isPost(p)) {
            return UNKNOWN;
        }
        if (now.kinds[p] == DOUBLE) {
            leave(5);
            return 80;
        }
        leave(4);
        return Integer.bitCount(now.twigs[p]);
    }

    public int as(int p, int kind) {
        latestFault = 0;
        if (!now.isPost(p)) {
            return UNKNOWN;
        }
        if (kind < PLAIN || kind > DOUBLE) {
            return OUTSIDE;
        }
        // Each kind is also all kinds of a lower number.
        return now.kinds[p] < kind ? faulted(CAST) : 1;
    }

    public int trace() {
        return steps;
    }

    public int fault() {
        return latestFault;
    }

    public int many(int what) {
        switch (what) {
            case 0: return now.posts;
            case 1: return grafts;
            case 2: return Integer.bitCount(now.ends());
            case 3: return readings.count;
            default: return OUTSIDE;
        }
    }

    private void leave(int body) {
        steps = 31 * steps + body;
    }

    private int faulted(int wrong) {
        latestFault = wrong;
        return -10 - wrong;
    }

    private static boolean isSheet(int k) {
        return k >= 0 && k < SHEETS;
    }

    private static boolean isLane(int lane) {
        return lane >= BYTES && lane <= INTS;
    }

    private static int worthOf(int kind, int load) {
        switch (kind) {
            case BROAD: return load + 1;
            case DOUBLE: return 2 * load;
            default: return load;
        }
    }

    private static int leastOf(int set) {
        for (int p = 0; p < MOST_POSTS; p++) {
            if ((set >> p & 1) != 0) {
                return p;
            }
        }
        return 0;
    }

    /** POSTS, what is on them, and the TWIGS between them; no POSTS at all: there is no VINE. */
    private static final class Vine {
        int posts;
        final int[] kinds = new int[MOST_POSTS];
        final int[] loads = new int[MOST_POSTS];
        final int[] twigs = new int[MOST_POSTS];
        /** FAR of each two POSTS: kept, as all about WAYS can be read off from it. */
        final int[][] away = new int[MOST_POSTS][MOST_POSTS];
        /** The POSTS as they are taken away, least first, and that on which each hung. */
        final int[] taken = new int[MOST_POSTS];
        final int[] hung = new int[MOST_POSTS];
        /** The best that is found below a POST with it, and without it. */
        final int[] with = new int[MOST_POSTS];
        final int[] without = new int[MOST_POSTS];

        boolean isPost(int p) {
            return p >= 0 && p < posts;
        }

        boolean isEnd(int p) {
            return Integer.bitCount(twigs[p]) == 1;
        }

        int worth(int p) {
            return worthOf(kinds[p], loads[p]);
        }

        int worthOfAll() {
            int sum = 0;
            for (int p = 0; p < posts; p++) {
                sum += worth(p);
            }
            return sum;
        }

        int ends() {
            int set = 0;
            for (int p = 0; p < posts; p++) {
                if (isEnd(p)) {
                    set |= 1 << p;
                }
            }
            return set;
        }

        boolean isOnWay(int a, int b, int p) {
            return away[a][p] + away[p][b] == away[a][b];
        }

        int farthest(int p) {
            int most = 0;
            for (int q = 0; q < posts; q++) {
                most = Math.max(most, away[p][q]);
            }
            return most;
        }

        int longest() {
            int most = 0;
            for (int p = 0; p < posts; p++) {
                most = Math.max(most, farthest(p));
            }
            return most;
        }

        int middles() {
            int least = MOST_POSTS;
            int set = 0;
            for (int p = 0; p < posts; p++) {
                int most = farthest(p);
                if (most < least) {
                    least = most;
                    set = 0;
                }
                if (most == least) {
                    set |= 1 << p;
                }
            }
            return set;
        }

        int twosWithin(int d) {
            int count = 0;
            for (int p = 0; p < posts; p++) {
                for (int q = 0; q < p; q++) {
                    if (away[p][q] <= d) {
                        count++;
                    }
                }
            }
            return count;
        }

        void become(Vine other) {
            posts = other.posts;
            for (int p = 0; p < posts; p++) {
                kinds[p] = other.kinds[p];
                loads[p] = other.loads[p];
                twigs[p] = other.twigs[p];
                System.arraycopy(other.away[p], 0, away[p], 0, posts);
            }
        }

        /** Of a TEXT without a fault, from cell i on. */
        void grow(Sheet text, int i) {
            posts = Text.digitAt(text, i + 1, MOST_POSTS);
            for (int k = 0; k < posts - 2; k++) {
                hung[k] = Text.digitAt(text, i + 2 + k, posts - 1);
            }
            for (int p = 0; p < posts; p++) {
                int place = i + posts + 2 * p;
                kinds[p] = Math.max(PLAIN, Text.kindOf(text.at(place)));
                loads[p] = Text.digitAt(text, place + 1, MOST_LOAD);
                twigs[p] = 0;
            }
            findTaken();
            // Put back last first, so that each hangs on one that is there already.
            for (int k = posts - 2; k >= 0; k--) {
                tie(taken[k], hung[k]);
            }
        }

        /** Which POSTS were taken away when the ROW was told: those that it names no more. */
        private void findTaken() {
            int left = (1 << posts) - 1;
            for (int k = 0; k < posts - 2; k++) {
                taken[k] = leastOf(left & ~namedFrom(k));
                left &= ~(1 << taken[k]);
            }
            if (posts >= 2) {
                taken[posts - 2] = leastOf(left);
                hung[posts - 2] = leastOf(left & ~(1 << taken[posts - 2]));
            }
        }

        private int namedFrom(int k) {
            int set = 0;
            for (int later = k; later < posts - 2; later++) {
                set |= 1 << hung[later];
            }
            return set;
        }

        private void tie(int p, int on) {
            twigs[p] |= 1 << on;
            twigs[on] |= 1 << p;
            for (int q = 0; q < posts; q++) {
                if (q != p) {
                    away[p][q] = away[on][q] + 1;
                    away[q][p] = away[p][q];
                }
            }
        }

        /** Of a POST with one TWIG: on which it hung. */
        int hangOn(int p, int on) {
            int was = leastOf(twigs[p]);
            twigs[was] &= ~(1 << p);
            twigs[p] = 0;
            tie(p, on);
            return was;
        }

        /** Takes the POSTS away, least first; the last but one, too, so that each TWIG is met. */
        void strip() {
            int left = (1 << posts) - 1;
            for (int k = 0; k < posts - 1; k++) {
                taken[k] = leastEnd(left);
                hung[k] = leastOf(twigs[taken[k]] & left);
                left &= ~(1 << taken[k]);
            }
        }

        private int leastEnd(int left) {
            for (int p = 0; p < posts; p++) {
                if ((left >> p & 1) != 0 && Integer.bitCount(twigs[p] & left) == 1) {
                    return p;
                }
            }
            return 0;
        }

        int numberOfRow() {
            strip();
            int ahead = 0;
            for (int k = 0; k < posts - 2; k++) {
                ahead = ahead * posts + hung[k];
            }
            return ahead;
        }

        /** A POST's last TWIG can be taken wherever both its POSTS are free: none is better. */
        int twigsApart() {
            strip();
            int used = 0;
            int count = 0;
            for (int k = 0; k < posts - 1; k++) {
                int both = 1 << taken[k] | 1 << hung[k];
                if ((used & both) == 0) {
                    used |= both;
                    count++;
                }
            }
            return count;
        }

        /**
         * LONERS as SETS times their WORTH less the set: the most of that is the most WORTH and, of
         * several sets, the least; and it can be added up POST by POST.
         */
        int bestApart() {
            strip();
            for (int p = 0; p < posts; p++) {
                with[p] = SETS * worth(p) - (1 << p);
                without[p] = 0;
            }
            int last = 0;
            for (int k = 0; k < posts - 1; k++) {
                int p = taken[k];
                last = hung[k];
                with[last] += without[p];
                without[last] += Math.max(with[p], without[p]);
            }
            return Math.max(with[last], without[last]);
        }
    }

    /** How many VINES are of a SHAPE: all numberings less those that make the same VINE again. */
    private static final class Shape {
        /** What hangs below a POST, as signs 1 .. 0 around those of all that hang on it, in order. */
        private final int[] signs = new int[MOST_POSTS];
        private final int[] below = new int[MOST_POSTS];
        /** How many ways there are to change equal parts about while the root stays. */
        private int turns;

        int sameShape(Vine vine) {
            int first = signsFrom(vine, 0);
            int same = turns;
            int places = 0;
            int numberings = 1;
            for (int p = 0; p < vine.posts; p++) {
                numberings *= p + 1;
                if (signsFrom(vine, p) == first) {
                    places++;
                }
            }
            int again = same * places;
            return again > 0 ? numberings / again : 0;
        }

        private int signsFrom(Vine vine, int root) {
            turns = 1;
            for (int d = vine.posts - 1; d >= 0; d--) {
                for (int p = 0; p < vine.posts; p++) {
                    if (vine.away[root][p] == d) {
                        join(gather(vine, root, p), p);
                    }
                }
            }
            return signs[root];
        }

        /** Puts in order the signs of all that hang on a POST, seen from the root: how many. */
        private int gather(Vine vine, int root, int p) {
            int count = 0;
            for (int q = 0; q < vine.posts; q++) {
                if ((vine.twigs[p] >> q & 1) != 0 && vine.away[root][q] > vine.away[root][p]) {
                    insert(signs[q], count);
                    count++;
                }
            }
            return count;
        }

        private void insert(int sign, int count) {
            int k = count;
            while (k > 0 && below[k - 1] > sign) {
                below[k] = below[k - 1];
                k--;
            }
            below[k] = sign;
        }

        private void join(int count, int p) {
            int all = 1;
            int equal = 0;
            for (int k = 0; k < count; k++) {
                equal = k > 0 && below[k] == below[k - 1] ? equal + 1 : 1;
                turns *= equal;
                // As many 0 as 1 are in signs: they are twice as long as there are 1 in them.
                all = all << 2 * Integer.bitCount(below[k]) | below[k];
            }
            signs[p] = all << 1;
        }
    }

    /** WAYS by their ends, so that a READING is about how the VINE is now, and what their WORTH is. */
    private static final class Readings {
        int count;
        private final int[] starts = new int[MOST_READINGS];
        private final int[] goals = new int[MOST_READINGS];
        private final int[] values = new int[MOST_READINGS];

        /** There is room: its number. */
        int take(int a, int b, int v) {
            starts[count] = a;
            goals[count] = b;
            values[count] = v;
            count++;
            return count - 1;
        }

        /** The WORTH of one POST, all others being as they are, by which all are so; ANY; NEVER. */
        int askedOf(Vine vine, int p) {
            int asked = ANY;
            for (int k = 0; k < count; k++) {
                int rest = values[k] - worthBeside(vine, p, k);
                boolean through = vine.isOnWay(starts[k], goals[k], p);
                if (through ? rest < 0 || asked != ANY && asked != rest : rest != 0) {
                    return NEVER;
                }
                if (through) {
                    asked = rest;
                }
            }
            return asked;
        }

        private int worthBeside(Vine vine, int p, int k) {
            int sum = 0;
            for (int q = 0; q < vine.posts; q++) {
                if (q != p && vine.isOnWay(starts[k], goals[k], q)) {
                    sum += vine.worth(q);
                }
            }
            return sum;
        }
    }

    /** A row of numbers of a LANE, or nothing. */
    private static final class Sheet {
        final int[] cells = new int[MOST_CELLS];
        int lane = NOTHING;
        private int length;

        void begin(int newLane, int newLength) {
            lane = newLane;
            length = newLength;
            for (int i = 0; i < MOST_CELLS; i++) {
                cells[i] = 0;
            }
        }

        /** Taken as a row of a LANE: nothing is of no LANE, but there is nothing to take. */
        int faultAs(int asked) {
            if (lane == NOTHING) {
                return NULL;
            }
            return lane == asked ? 0 : CAST;
        }

        /** Told by what is left from i on, as i and n together may go beyond an int. */
        boolean has(int i, int n) {
            return i >= 0 && i <= length && n >= 0 && n <= length - i;
        }

        int at(int i) {
            return i >= 0 && i < length ? cells[i] : 0;
        }

        int cut(int v) {
            switch (lane) {
                case BYTES: return (byte) v;
                case SHORTS: return (short) v;
                default: return v;
            }
        }
    }

    /** The TEXT of a VINE: v, how many POSTS, the ROW, then a letter and a digit for each POST. */
    private static final class Text {
        /** NONE: the n cells from i on are a TEXT. */
        static int firstFault(Sheet from, int i, int n) {
            int posts = MOST_POSTS;
            for (int place = 0; place < n; place++) {
                int code = from.at(i + place);
                if (!goesOn(place, code, posts)) {
                    return place;
                }
                if (place == 1) {
                    posts = code - '0';
                }
            }
            return n == 3 * posts ? NONE : n;
        }

        private static boolean goesOn(int place, int code, int posts) {
            if (place == 0) {
                return code == 'v';
            }
            if (place == 1) {
                return code >= '2' && code <= '0' + MOST_POSTS;
            }
            if (place < posts) {
                return code >= '0' && code < '0' + posts;
            }
            if (place >= 3 * posts) {
                return false;
            }
            boolean letter = (place - posts) % 2 == 0;
            return letter ? kindOf(code) != NONE : code >= '0' && code <= '9';
        }

        static int kindOf(int code) {
            switch (code) {
                case 'p': return PLAIN;
                case 'b': return BROAD;
                case 'd': return DOUBLE;
                default: return NONE;
            }
        }

        static int digitAt(Sheet from, int i, int most) {
            return Math.max(0, Math.min(most, from.at(i) - '0'));
        }
    }
}
