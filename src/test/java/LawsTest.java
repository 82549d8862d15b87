/**
 * What holds of all vines, asked of every vine of two to eight posts, each with an object of its own. Each law
 * joins answers that are found in different ways, so that none is compared with a copy of itself. All posts
 * are PLAIN with LOAD 1, so that WORTH together is how many POSTS there are.
 */
public final class LawsTest {
    private static final int NONE = -9;
    private static final int ALL_ORDERS = 40320;
    /** How many shapes there are of 0 .. 8 posts, as is known of trees without numbers. */
    private static final int[] SHAPES = {0, 0, 1, 1, 2, 3, 6, 11, 23};

    private final int n;
    private final int number;
    private final int[] digits;
    private final VineRows x = new VineRows();

    public static void main(String[] args) {
        for (int n = 2; n < SHAPES.length; n++) {
            everyVineOf(n);
        }
        Checks.finish("LawsTest");
    }

    private static void everyVineOf(int n) {
        long shares = 0;
        for (int number = 0; number < Edges.rows(n) && !Checks.anyWrong(); number++) {
            LawsTest vine = new LawsTest(n, number);
            vine.row();
            vine.posts();
            vine.middles();
            vine.twigs();
            vine.apart();
            vine.odds();
            vine.readings();
            shares += vine.shareOfShape();
            vine.grafts();
        }
        // Of each shape there are ALIKE vines, and each is counted as 1 by ALIKE.
        Checks.due("12 shapes of " + n + " posts", shares, (long) SHAPES[n] * ALL_ORDERS);
    }

    private LawsTest(int n, int number) {
        this.n = n;
        this.number = number;
        digits = new int[n - 2];
        int rest = number;
        for (int k = n - 3; k >= 0; k--) {
            digits[k] = rest % n;
            rest /= n;
        }
        StringBuilder text = new StringBuilder("v").append(n);
        for (int digit : digits) {
            text.append(digit);
        }
        due("2 vine", Checks.plant(x, text.append("p1".repeat(n)).toString()), n);
    }

    private void due(String law, long got, long want) {
        Checks.due(law + " of vine " + number + " of " + n + " posts", got, want);
    }

    private void row() {
        due("11 number", x.number(), number);
        for (int k = 0; k < 6; k++) {
            due("5 row", x.row(k), k < digits.length ? digits[k] : NONE);
        }
    }

    /** A POST is told in a ROW once less than it has TWIGS. */
    private void posts() {
        int ends = 0;
        for (int p = 0; p < n; p++) {
            int count = 1;
            for (int digit : digits) {
                count += digit == p ? 1 : 0;
            }
            ends += count == 1 ? 1 : 0;
            due("3 twigs", x.ofPost(p, 3), count);
            due("3 posts to which they go", Integer.bitCount(x.ofPost(p, 4)), count);
            due("27 knocked", x.knock(p), count);
        }
        due("31 ends", x.many(2), ends);
    }

    /** The middle of the longest way: one post, or the two at a twig; the farthest is half as far. */
    private void middles() {
        int most = x.middle(1);
        int set = x.middle(0);
        due("10 middles", Integer.bitCount(set), 1 + most % 2);
        int farthest = 0;
        for (int p = 0; p < n; p++) {
            int far = x.ofPost(p, 5);
            farthest = Math.max(farthest, far);
            due("10 in the middle", set >> p & 1, far == (most + 1) / 2 ? 1 : 0);
        }
        due("10 long", farthest, most);
    }

    /** A twig is on as many ways as there are choices of one post from each of its two parts. */
    private void twigs() {
        int onWays = 0;
        int far = 0;
        for (int a = 0; a < n; a++) {
            for (int b = 0; b < a; b++) {
                far += x.far(a, b);
                if ((x.ofPost(a, 4) >> b & 1) != 0) {
                    due("15 both parts", x.part(a, b) + x.part(b, a), n);
                    onWays += x.part(a, b) * x.part(b, a);
                } else {
                    due("15 no twig", x.part(a, b), -3);
                }
            }
        }
        due("8 far of all twos", far, onWays);
    }

    /** In a vine each twig of PAIRS keeps just one post from being a LONER, if all are worth the same. */
    private void apart() {
        due("13 and 14", x.pairs() + x.loners(0), n);
        int set = x.loners(1);
        due("14 as many as they are worth", Integer.bitCount(set), x.loners(0));
        for (int p = 0; p < n; p++) {
            due("14 alone", (set >> p & 1) * (x.ofPost(p, 4) & set), 0);
        }
    }

    /** Of n posts the twigs are 2 of n of all twos; all are as far as LONG, or less; not all are less. */
    private void odds() {
        int most = x.middle(1);
        due("20 twigs", x.odds(1, 0) * n, 2 * x.odds(1, 1));
        due("20 upper of all", x.odds(most, 0), 1);
        due("20 lower of all", x.odds(most, 1), 1);
        Checks.holds("20 not all", x.odds(most - 1, 0) < x.odds(most - 1, 1));
    }

    /** Of a reading that is so: what is on the way stays as it is, what is beside it is free. */
    private void readings() {
        int far = x.far(0, n - 1);
        int onWay = 0;
        for (int k = 0; k <= far; k++) {
            onWay |= 1 << x.way(0, n - 1, k);
        }
        due("9 posts on the way", Integer.bitCount(onWay), far + 1);
        due("16 reading", x.reading(0, n - 1, far + 1), 0);
        for (int p = 0; p < n; p++) {
            boolean on = (onWay >> p & 1) != 0;
            due("18 loadings", x.loadings(p), on ? 2 : 1023);
            due("19 kinds", x.kinds(p), on ? 1 : 7);
        }
    }

    private int shareOfShape() {
        int alike = x.alike();
        due("12 one of the orders of all", ALL_ORDERS % Math.max(1, alike), 0);
        return ALL_ORDERS / Math.max(1, alike);
    }

    /** A day comes to what the same graft comes to; and a post that is hung back makes the same vine. */
    private void grafts() {
        int p = 0;
        while (x.ofPost(p, 3) != 1) {
            p++;
        }
        int on = p == n - 1 ? 0 : n - 1;
        Checks.fill(x, 1, p, on);
        int numberThen = x.day(1, 2, 0, 1, 2);
        int longThen = x.day(1, 2, 0, 1, 0);
        int was = x.graft(p, on);
        due("7 number then", numberThen, x.number());
        due("7 long then", longThen, x.middle(1));
        due("6 hangs on", x.ofPost(p, 4), 1 << on);
        due("6 hung on", x.graft(p, was), on);
        due("6 the same vine", x.number(), number);
        due("31 grafts", x.many(1), 2);
    }
}
