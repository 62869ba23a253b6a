/** Promises 20 and 22: luck, even. */
public final class ChanceTest {
    /** Every choice of b of n people, as bits; the first a of them are in the one count. */
    private static long luckByAll(int n, int a, int b, int k) {
        long ways = 0;
        for (int set = 0; set < 1 << n; set++) {
            if (Integer.bitCount(set) == b && Integer.bitCount(set & (1 << a) - 1) <= k) {
                ways++;
            }
        }
        return ways;
    }

    private static void luck() {
        CountedTwice x = new CountedTwice();
        for (int n = 1; n <= 7; n++) {
            for (int a = 0; a <= n; a++) {
                for (int b = 0; b <= n; b++) {
                    for (int k = 0; k <= n; k++) {
                        Check.due("20: luck(" + n + ", " + a + ", " + b + ", " + k + ")", x.luck(n, a, b, k), luckByAll(n, a, b, k));
                    }
                }
            }
            x = new CountedTwice();
        }
    }

    private static void luckAtItsEdges() {
        CountedTwice x = new CountedTwice();
        Check.due("20: all of sixty", x.luck(60, 60, 60, 60), 1);
        Check.due("20: they can't be so few", x.luck(60, 60, 60, 59), 0);
        Check.due("20: the most ways", x.luck(60, 30, 30, 30), 118264581564861424L);
        Check.due("20: the most ways, but one", x.luck(60, 30, 30, 29), 118264581564861423L);
        Check.due("20: only the others", x.luck(60, 30, 30, 0), 1);
        Check.due("20: nobody is chosen", x.luck(60, 30, 0, 0), 1);
        Check.due("20: nobody is in the one count", x.luck(60, 0, 30, 0), 118264581564861424L);
        int[][] wrong = {{0, 0, 0, 0}, {61, 1, 1, 1}, {-1, 0, 0, 0}, {5, -1, 0, 0}, {5, 6, 0, 0}, {5, 0, -1, 0},
            {5, 0, 6, 0}, {5, 0, 0, -1}, {5, 0, 0, 6}, {Integer.MAX_VALUE, 0, 0, 0}, {Integer.MIN_VALUE, 0, 0, 0}};
        for (int[] w : wrong) {
            Check.due("20: can't be", x.luck(w[0], w[1], w[2], w[3]), -1);
        }
    }

    private static long evenByAll(int digits, int most) {
        int rows = (int) Math.pow(10, digits);
        long many = 0;
        for (int row = 0; row < rows; row++) {
            int[] often = new int[10];
            int left = row;
            for (int i = 0; i < digits; i++) {
                often[left % 10]++;
                left /= 10;
            }
            int squares = 0;
            for (int o : often) {
                squares += o * o;
            }
            if (squares <= most) {
                many++;
            }
        }
        return many;
    }

    private static void even() {
        int[][] rows = {{3}, {13, 23}, {4, 5}, {1, 1, 2}, {1, 1, 1}, {1, 2, 3}, {9, 9, 9, 9}, {1, 1, 2, 2}, {1, 1, 1, 2, 3},
            {0, 10, 20, 100, 119, 119}, {1, 2, 3, 4, 5, 6}};
        for (int[] ages : rows) {
            CountedTwice x = new CountedTwice();
            x.house(0, 0, 0);
            int[] often = new int[10];
            int squares = 0;
            for (int age : ages) {
                Check.entry(x, "x", 0, 4, 0, 0, 0, age);
                Check.entry(x, "x", 1, 4, 0, 0, 0, 7);
                Check.entry(x, "x", 0, 5, 0, 0, 0, 7);
                squares += 2 * often[age % 10] + 1;
                often[age % 10]++;
            }
            Check.due("21: evenness of " + ages.length, x.counter(4, 5), squares);
            Check.due("22: ways of " + ages.length, x.even(4), evenByAll(ages.length, squares));
            Check.due("22: all alike are least even: all rows", x.even(5), (long) Math.pow(10, ages.length));
            Check.due("22: without entries", x.even(6), 1);
        }
    }

    private static void fifteenAtMost() {
        CountedTwice x = new CountedTwice();
        x.house(0, 0, 0);
        for (int i = 0; i < 15; i++) {
            Check.entry(x, "x", 0, 10, 0, 0, 0, i);
        }
        // Five digits twice and five once are the most even fifteen: 15! * C(10, 5) / 2^5 rows.
        long most = 1307674368000L * 252 / 32;
        Check.due("21: evenness", x.counter(10, 5), 25);
        Check.due("22: ways", x.even(10), most);
        Check.entry(x, "x", 0, 10, 0, 0, 0, 5);
        Check.due("21: the sixteenth isn't asked", x.counter(10, 5), 25);
        Check.due("22: the sixteenth isn't asked", x.even(10), most);
        x.voids(0);
        Check.due("21: it is, when an earlier one is void", x.counter(10, 5), 25 - 3 + 5 - 2);
        for (int i = 0; i < 15; i++) {
            Check.entry(x, "x", 0, 0, 0, 0, 0, 10 * (i % 12));
        }
        Check.due("21: one digit", x.counter(0, 5), 225);
        Check.due("22: all rows", x.even(0), 1000000000000000L);
        x.view(15);
        Check.due("22: as known then", x.even(0), 1);
        Check.due("22: no counter", x.even(11), -1);
        Check.due("22: no counter", x.even(-1), -1);
    }

    public static void main(String[] args) {
        luck();
        luckAtItsEdges();
        even();
        fifteenAtMost();
        Check.close("ChanceTest");
    }
}
