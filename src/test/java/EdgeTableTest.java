/** The boundaries of the table, the ends, luck and the books that look made up, and of promises 18 to 23, sentence by sentence. */
public final class EdgeTableTest {
    private static final int SAME = 0;
    private static final int MAYBE = 1;

    /** So many persons of each sort in street 0, alike by age. */
    private static CountedTwice sorts(int open, int secret, int both) {
        CountedTwice x = Check.houses(1);
        Check.text(x, SAME, "like when ages=0;");
        for (int p = 0; p < open + secret + both; p++) {
            if (p < open || p >= open + secret) {
                Check.entry(x, "x", 0, 0, 0, 0, 0, p);
            }
            if (p >= open) {
                Check.entry(x, "x", 1, 0, 0, 0, 0, p);
            }
        }
        return x;
    }

    private static void missed() {
        Check.says("TABLE of a STREET or of all: PERSONS that are OPEN, SECRET, BOTH (of the STREET of their least ENTRY), and MISSED by both: "
                + "OPEN times SECRET by BOTH (NONE if BOTH is 0).");
        int[][] rows = {{0, 0, 0, -1}, {1, 0, 0, -1}, {0, 1, 0, -1}, {1, 1, 0, -1}, {5, 5, 0, -1}, {0, 0, 1, 0}, {1, 0, 1, 0}, {0, 1, 1, 0},
            {1, 1, 1, 1}, {1, 1, 2, 0}, {2, 1, 2, 1}, {3, 1, 2, 1}, {2, 2, 2, 2}, {3, 3, 2, 4}, {3, 3, 3, 3}, {3, 3, 4, 2}, {5, 7, 6, 5},
            {7, 5, 36, 0}, {6, 6, 36, 1}, {40, 40, 1, 1600}, {59, 59, 1, 3481}};
        for (int[] row : rows) {
            CountedTwice x = sorts(row[0], row[1], row[2]);
            for (int what = 0; what < 4; what++) {
                Check.due("all, what " + what, x.table(-1, what), row[what]);
                Check.due("street 0, what " + what, x.table(0, what), row[what]);
                Check.due("street 1, what " + what, x.table(1, what), what == 3 ? -1 : 0);
            }
        }
    }

    private static void streetOfTheLeast() {
        CountedTwice x = new CountedTwice();
        for (int street = 0; street < 12; street++) {
            x.house(street, 0, 0);
        }
        Check.text(x, SAME, "like when ages=0;");
        Check.entry(x, "x", 0, 0, 11, 0, 0, 5);
        Check.entry(x, "x", 1, 0, 0, 0, 0, 5);
        Check.entry(x, "x", 1, 0, 3, 0, 0, 5);
        for (int street = 0; street < 12; street++) {
            Check.due("both of " + street, x.table(street, 2), street == 11 ? 1 : 0);
            Check.due("double of " + street, x.table(street, 4), street == 11 ? 1 : 0);
        }
        x.voids(0);
        for (int street = 0; street < 12; street++) {
            Check.due("secret of " + street + ", without the least", x.table(street, 1), street == 0 ? 1 : 0);
            Check.due("double of " + street + ", without the least", x.table(street, 4), street == 0 ? 1 : 0);
        }
        x.view(1);
        Check.due("open of 11, at first", x.table(11, 0), 1);
        Check.due("no double yet", x.table(-1, 4), 0);
    }

    private static void table() {
        Check.says("TABLE of a STREET (NONE: all) what 0 OPEN, 1 SECRET, 2 BOTH, 3 MISSED, 4 DOUBLE ones. NONE if one can't be, or another what.");
        CountedTwice x = new CountedTwice();
        x.house(0, 0, 0);
        x.house(11, 0, 0);
        Check.text(x, SAME, "like when ages=0;");
        int[][] entries = {{0, 0, 1}, {1, 0, 2}, {0, 1, 3}, {1, 0, 3}, {0, 0, 4}, {1, 1, 4}, {0, 1, 5}, {1, 1, 6}};
        for (int[] e : entries) {
            Check.entry(x, "x", e[0], 0, e[1], 0, 0, e[2]);
        }
        int[][] rows = {{-1, 2, 2, 2, 2, 2}, {0, 1, 1, 1, 1, 1}, {1, 0, 0, 0, -1, 0}, {10, 0, 0, 0, -1, 0}, {11, 1, 1, 1, 1, 1}};
        for (int[] row : rows) {
            for (int what = 0; what < 5; what++) {
                Check.due("table(" + row[0] + ", " + what + ")", x.table(row[0], what), row[what + 1]);
            }
            Check.refused("another what of " + row[0], 0, 4, v -> x.table(row[0], v), -1);
        }
        for (int what = 0; what < 5; what++) {
            int asked = what;
            Check.refused("street, what " + what, -1, 11, v -> x.table(v, asked), -1);
        }
    }

    /** Open ages, secret ages, the text of MAYBE, and how many couples there are at most. */
    private static void couples(int[] open, int[] secret, String maybe, int due) {
        for (int first = 0; first < 2; first++) {
            CountedTwice x = Check.houses(1);
            for (int round = 0; round < 2; round++) {
                int count = first == 0 ? round : 1 - round;
                for (int age : count == 0 ? open : secret) {
                    Check.entry(x, "x", count, 0, 0, 0, 0, age);
                }
            }
            Check.text(x, MAYBE, maybe);
            int all = open.length + secret.length;
            Check.due("the most", x.ends(1), all);
            Check.due("the least by " + maybe, x.ends(0), all - due);
        }
    }

    private static void ends() {
        Check.says("ENDS of how many PERSONS there are: an OPEN one and a SECRET one can be one, if some ENTRIES of theirs are MAYBE; "
                + "each at most with one other: the most are all PERSONS, the least are these less the greatest number of such couples at once.");
        couples(new int[] {}, new int[] {}, "like when 1=1;", 0);
        couples(new int[] {1}, new int[] {}, "like when 1=1;", 0);
        couples(new int[] {}, new int[] {1}, "like when 1=1;", 0);
        couples(new int[] {1, 1}, new int[] {}, "like when 1=1;", 0);
        couples(new int[] {}, new int[] {1, 1}, "like when 1=1;", 0);
        couples(new int[] {1}, new int[] {2}, "", 0);
        couples(new int[] {1}, new int[] {2}, "like when ages<1;", 0);
        couples(new int[] {1}, new int[] {2}, "like when ages<2;", 1);
        couples(new int[] {1, 1}, new int[] {2}, "like when 1=1;", 1);
        couples(new int[] {1}, new int[] {2, 2}, "like when 1=1;", 1);
        couples(new int[] {1, 1}, new int[] {2, 2}, "like when 1=1;", 2);
        couples(new int[] {10, 12}, new int[] {11, 9}, "like when ages=1;", 2);
        couples(new int[] {12, 10}, new int[] {11, 9}, "like when ages=1;", 2);
        couples(new int[] {10, 12, 14}, new int[] {11, 13}, "like when ages=1;", 2);
        couples(new int[] {10, 12, 14, 16}, new int[] {15, 13, 11, 9}, "like when ages=1;", 4);
        couples(new int[] {16, 14, 12, 10}, new int[] {11, 13, 15, 17}, "like when ages=1;", 4);
        couples(new int[] {10, 20, 30}, new int[] {11, 11, 11}, "like when ages=1;", 1);
        couples(new int[] {10, 10, 10, 40}, new int[] {11, 41, 41, 9}, "like when ages=1;", 3);
        couples(new int[] {8, 12, 10, 51}, new int[] {11, 9, 13, 7}, "like when ages=1 or ages=40;", 4);
        couples(new int[] {8, 12, 10, 51, 91}, new int[] {11, 9, 13, 7}, "like when ages=1 or ages=40;", 4);
    }

    /** All the ways to choose couples, one open person behind the other. */
    private static int mostCouples(int[] open, int[] secret, int at, int taken, int far) {
        if (at == open.length) {
            return 0;
        }
        int most = mostCouples(open, secret, at + 1, taken, far);
        for (int q = 0; q < secret.length; q++) {
            int apart = Math.abs(open[at] - secret[q]);
            if ((taken >> q & 1) == 0 && (apart == 1 || apart == far)) {
                most = Math.max(most, 1 + mostCouples(open, secret, at + 1, taken | 1 << q, far));
            }
        }
        return most;
    }

    private static void allCouples() {
        java.util.Random random = new java.util.Random(7);
        for (int i = 0; i < 300; i++) {
            int[] open = new int[1 + random.nextInt(7)];
            int[] secret = new int[1 + random.nextInt(7)];
            int far = 3 + random.nextInt(6);
            for (int p = 0; p < open.length; p++) {
                open[p] = random.nextInt(18);
            }
            for (int q = 0; q < secret.length; q++) {
                secret[q] = random.nextInt(18);
            }
            couples(open, secret, "like when ages=1 or ages=" + far + ";", mostCouples(open, secret, 0, 0, far));
        }
    }

    private static void theEntriesOfCouples() {
        CountedTwice x = Check.houses(1);
        Check.text(x, SAME, "like when ages=1;");
        Check.text(x, MAYBE, "like when ages=7;");
        // One open person of 10, 11 and 12, one secret one of 19 and 20: 12 and 19 are seven apart, no others.
        int[][] entries = {{0, 10}, {0, 11}, {1, 20}, {1, 19}, {0, 12}};
        for (int[] e : entries) {
            Check.entry(x, "x", e[0], 0, 0, 0, 0, e[1]);
        }
        Check.due("the most", x.ends(1), 2);
        Check.due("the least: some entries are enough", x.ends(0), 1);
        x.voids(4);
        Check.due("not one that is void", x.ends(0), 2);
        x.view(5);
        Check.due("as known then", x.ends(0), 1);
        x.view(4);
        Check.due("ahead of it", x.ends(0), 2);
        CountedTwice both = Check.houses(1);
        Check.text(both, SAME, "like when ages=0;");
        Check.text(both, MAYBE, "like when 1=1;");
        int[][] others = {{0, 5}, {1, 5}, {0, 6}, {1, 7}, {1, 7}, {1, 8}};
        for (int[] e : others) {
            Check.entry(both, "x", e[0], 0, 0, 0, 0, e[1]);
        }
        Check.due("four persons", both.ends(1), 4);
        Check.due("who is both is with nobody", both.ends(0), 3);
        both.voids(1);
        Check.due("now he is open", both.ends(0), 2);
    }

    private static void whatOfEnds() {
        Check.says("ENDS what 0 the least, 1 the most. NONE for another what.");
        CountedTwice x = sorts(1, 1, 1);
        Check.due("the least", x.ends(0), 3);
        Check.due("the most", x.ends(1), 3);
        Check.refused("another what", 0, 1, v -> x.ends(v), -1);
        CountedTwice none = new CountedTwice();
        Check.due("nobody", none.ends(0), 0);
        Check.due("nobody", none.ends(1), 0);
        Check.refused("another what", 0, 1, v -> none.ends(v), -1);
    }

    private static void luck() {
        Check.says("LUCK: of N (1 .. 60) people a are in one count, b in the other one: the ways to choose these b of N such that "
                + "at most k of them are among the a.");
        CountedTwice x = new CountedTwice();
        long[][] rows = {{1, 0, 0, 0, 1}, {1, 0, 0, 1, 1}, {1, 1, 0, 0, 1}, {1, 0, 1, 0, 1}, {1, 1, 1, 0, 0}, {1, 1, 1, 1, 1}, {2, 1, 1, 0, 1},
            {2, 1, 1, 1, 2}, {2, 1, 1, 2, 2}, {4, 2, 2, 0, 1}, {4, 2, 2, 1, 5}, {4, 2, 2, 2, 6}, {4, 3, 2, 0, 0}, {4, 3, 2, 1, 3}, {4, 4, 2, 1, 0},
            {4, 4, 2, 2, 6}, {4, 2, 4, 1, 0}, {4, 2, 4, 2, 1}, {60, 60, 60, 59, 0}, {60, 60, 60, 60, 1}, {60, 0, 0, 0, 1}, {60, 0, 60, 0, 1},
            {60, 60, 0, 0, 1}, {60, 1, 1, 0, 59}, {60, 1, 1, 1, 60}, {60, 30, 30, 60, 118264581564861424L}, {60, 30, 30, 30, 118264581564861424L},
            {60, 30, 30, 29, 118264581564861423L}, {60, 30, 30, 1, 901}, {60, 0, 30, 0, 118264581564861424L}, {60, 60, 30, 29, 0},
            {60, 60, 30, 30, 118264581564861424L}, {59, 29, 29, 59, 59132290782430712L}, {59, 59, 30, 30, 59132290782430712L}};
        for (long[] r : rows) {
            Check.due("luck(" + r[0] + ", " + r[1] + ", " + r[2] + ", " + r[3] + ")", x.luck((int) r[0], (int) r[1], (int) r[2], (int) r[3]), r[4]);
        }
    }

    private static void noSuchLuck() {
        Check.says("LUCK (n 1 .. 60, a, b 0 .. n, k 0 .. n); NONE if one can't be.");
        CountedTwice x = new CountedTwice();
        Check.refused("n", 1, 60, v -> x.luck(v, 0, 0, 0), -1);
        for (int n : new int[] {1, 5, 60}) {
            Check.due("all of " + n, x.luck(n, n, n, n), 1);
            Check.refused("a of " + n, 0, n, v -> x.luck(n, v, 0, 0), -1);
            Check.refused("b of " + n, 0, n, v -> x.luck(n, 0, v, 0), -1);
            Check.refused("k of " + n, 0, n, v -> x.luck(n, 0, 0, v), -1);
        }
        Check.due("n 0", x.luck(0, 0, 0, 0), -1);
        Check.due("n 61", x.luck(61, 61, 61, 61), -1);
    }

    /** Houses 0 and 1 are 100 apart, house 2 stands where house 1 does, house 3 in another street. */
    private static CountedTwice town(int pace, int sit) {
        CountedTwice x = new CountedTwice();
        x.house(0, 0, 0);
        x.house(0, 100, 1);
        x.house(0, 100, 2);
        x.house(1, 0, 3);
        x.set(0, pace);
        x.set(1, sit);
        return x;
    }

    private static void ghosts() {
        Check.says("GHOSTS: ENTRIES of COUNT 0 at a time when nobody was at HOME there.");
        CountedTwice x = town(0, 0);
        Check.text(x, 2, "away when hour=8 and day=3 and kind=1;");
        int[][] entries = {{1, 3, 479, 0}, {1, 3, 480, 1}, {1, 3, 539, 1}, {1, 3, 540, 0}, {1, 2, 500, 0}, {1, 4, 500, 0}, {0, 3, 500, 0},
            {2, 3, 500, 0}};
        int ghosts = 0;
        for (int[] e : entries) {
            Check.entry(x, "x", 0, 5, e[0], e[1], e[2], 0);
            Check.entry(x, "x", 1, 5, e[0], e[1], e[2], 0);
            ghosts += e[3];
            Check.due("ghosts behind " + e[2], x.counter(5, 2), ghosts);
        }
        Check.due("another's", x.counter(4, 2), 0);
        Check.text(x, 2, "");
        Check.due("all at home", x.counter(5, 2), 0);
        Check.text(x, 2, "away when 1=1;");
        Check.due("all away", x.counter(5, 2), 8);
        x.voids(0);
        Check.due("one is void", x.counter(5, 2), 7);
        x.voids(1);
        Check.due("of the secret count", x.counter(5, 2), 7);
    }

    /** Entries of one book told as house, day, minute; how many of them are quick. */
    private static void quickOnes(CountedTwice x, int due, int[]... entries) {
        for (int count = 0; count < 2; count++) {
            for (int[] e : entries) {
                Check.entry(x, "x", count, 10, e[0], e[1], e[2], 0);
            }
            Check.due("quick in count " + count, x.counter(10, 3 + count), due);
            Check.due("in the other one", x.counter(10, 4 - count), count == 0 ? 0 : due);
        }
    }

    private static int[] at(int house, int day, int minute) {
        return new int[] {house, day, minute};
    }

    private static void quick() {
        Check.says("QUICK: ENTRIES of a COUNTER in a COUNT, by DAY, MINUTE, number, the one just ahead of which is on the same DAY "
                + "in another HOUSE, with less time between than MINUTES of the WAY.");
        // A hundred apart at pace 20 and 3 to sit are 23 minutes.
        quickOnes(town(20, 3), 1, at(0, 0, 100), at(1, 0, 122));
        quickOnes(town(20, 3), 0, at(0, 0, 100), at(1, 0, 123));
        quickOnes(town(20, 3), 1, at(1, 0, 122), at(0, 0, 100));
        quickOnes(town(20, 3), 0, at(1, 0, 123), at(0, 0, 100));
        quickOnes(town(20, 3), 1, at(0, 0, 100), at(1, 0, 100));
        quickOnes(town(20, 3), 1, at(0, 99, 1417), at(1, 99, 1439));
        quickOnes(town(20, 3), 0, at(0, 99, 1416), at(1, 99, 1439));
        quickOnes(town(20, 3), 0, at(0, 0, 100), at(0, 0, 100));
        quickOnes(town(20, 3), 1, at(1, 0, 100), at(2, 0, 102));
        quickOnes(town(20, 3), 0, at(1, 0, 100), at(2, 0, 103));
        quickOnes(town(20, 0), 0, at(1, 0, 100), at(2, 0, 100));
        quickOnes(town(0, 0), 0, at(0, 0, 100), at(3, 0, 100));
        quickOnes(town(0, 1), 1, at(0, 0, 100), at(3, 0, 100));
        quickOnes(town(0, 1), 0, at(0, 0, 100), at(3, 0, 101));
        quickOnes(town(20, 3), 1, at(0, 0, 100), at(3, 0, 122));
        quickOnes(town(20, 3), 0, at(0, 0, 100), at(3, 0, 123));
    }

    private static void quickByDays() {
        quickOnes(town(99, 99), 0, at(0, 0, 1439), at(1, 1, 0));
        quickOnes(town(99, 99), 0, at(0, 0, 100), at(1, 1, 100));
        quickOnes(town(99, 99), 0, at(0, 1, 100), at(1, 0, 101));
        quickOnes(town(99, 99), 1, at(0, 1, 100), at(1, 0, 101), at(1, 1, 101));
        quickOnes(town(99, 99), 0, at(0, 98, 0), at(1, 99, 0));
        quickOnes(town(99, 99), 0);
        quickOnes(town(99, 99), 0, at(0, 0, 0));
    }

    /** What is just ahead: not what is told ahead, and no other one ahead. */
    private static void quickByOrder() {
        quickOnes(town(20, 3), 2, at(0, 0, 100), at(1, 0, 110), at(0, 0, 120));
        quickOnes(town(20, 3), 1, at(0, 0, 100), at(0, 0, 110), at(1, 0, 120));
        quickOnes(town(20, 3), 1, at(0, 0, 100), at(1, 0, 100), at(1, 0, 100));
        quickOnes(town(20, 3), 2, at(0, 0, 100), at(1, 0, 100), at(0, 0, 100));
        quickOnes(town(20, 3), 1, at(1, 0, 100), at(0, 0, 99), at(1, 0, 100));
        quickOnes(town(20, 3), 2, at(1, 0, 100), at(0, 0, 101), at(1, 0, 102));
        quickOnes(town(20, 3), 1, at(0, 0, 200), at(1, 0, 200), at(0, 0, 100));
        quickOnes(town(20, 3), 0, at(0, 0, 100), at(1, 0, 200), at(0, 0, 150));
        CountedTwice x = town(20, 3);
        Check.entry(x, "x", 0, 1, 0, 0, 100, 0);
        Check.entry(x, "x", 0, 2, 1, 0, 101, 0);
        Check.entry(x, "x", 1, 1, 1, 0, 101, 0);
        Check.due("another counter's", x.counter(1, 3), 0);
        Check.due("another counter's", x.counter(2, 3), 0);
        Check.due("another count's", x.counter(1, 4), 0);
        Check.entry(x, "x", 0, 1, 1, 0, 101, 0);
        Check.entry(x, "x", 0, 1, 0, 0, 102, 0);
        Check.due("two", x.counter(1, 3), 2);
        x.voids(3);
        Check.due("a void one is not ahead", x.counter(1, 3), 0);
        x.view(4);
        Check.due("ahead of the last one", x.counter(1, 3), 1);
    }

    private static CountedTwice aged(int... ages) {
        CountedTwice x = Check.houses(1);
        for (int age : ages) {
            Check.entry(x, "x", 0, 10, 0, 0, 0, age);
        }
        return x;
    }

    private static void even(int evenness, long ways, int... ages) {
        CountedTwice x = aged(ages);
        Check.due("evenness of " + ages.length, x.counter(10, 5), evenness);
        Check.due("ways of " + ages.length, x.even(10), ways);
    }

    private static void evenness() {
        Check.says("EVEN: the last digits of AGES of a COUNTER's first ENTRIES in COUNT 0 (by number, 15 at most): "
                + "EVENNESS: the squares of how often each digit comes, added; WAYS: in how many of all rows of so many digits it is not greater.");
        even(0, 1);
        even(1, 10, 0);
        even(1, 10, 119);
        even(2, 90, 0, 9);
        even(4, 100, 9, 119);
        even(4, 100, 0, 110);
        even(3, 720, 1, 2, 3);
        even(5, 990, 1, 12, 11);
        even(9, 1000, 7, 17, 107);
        even(4, 5040, 1, 2, 3, 4);
        even(6, 9360, 1, 1, 2, 3);
        even(8, 9630, 1, 1, 2, 2);
        even(10, 9990, 1, 1, 1, 2);
        even(16, 10000, 1, 1, 1, 1);
        even(10, 3628800, 0, 1, 2, 3, 4, 5, 6, 7, 8, 9);
        even(10, 3628800, 119, 108, 97, 86, 75, 64, 53, 42, 31, 20);
    }

    private static void fifteen() {
        int[] ages = {0, 1, 2, 3, 4, 5, 6, 7, 8, 9, 10, 11, 12, 13, 14};
        even(25, 1307674368000L / 32 * 252, ages);
        even(225, 1000000000000000L, new int[15]);
        even(197, 1000000000000000L - 10, 0, 0, 0, 0, 0, 0, 0, 0, 0, 0, 0, 0, 0, 0, 1);
        even(196, 100000000000000L, new int[14]);
        CountedTwice x = aged(ages);
        Check.entry(x, "x", 0, 10, 0, 0, 0, 0);
        Check.due("the sixteenth isn't asked", x.counter(10, 5), 25);
        Check.due("the sixteenth isn't asked", x.even(10), 1307674368000L / 32 * 252);
        Check.due("sixteen all the same", x.counter(10, 0), 16);
        x.voids(0);
        Check.due("now it is one of the first fifteen", x.counter(10, 5), 25);
        x.voids(5);
        Check.due("now there are fourteen: 0 .. 4 twice, 6 .. 9 once", x.counter(10, 5), 5 * 4 + 4);
        x.view(14);
        Check.due("fourteen known then", x.counter(10, 5), 4 * 4 + 6);
        x.view(15);
        Check.due("fifteen known then", x.counter(10, 5), 25);
        x.view(16);
        Check.due("sixteen known then", x.counter(10, 5), 25);
        CountedTwice y = aged(1, 1);
        Check.entry(y, "x", 1, 10, 0, 0, 0, 1);
        Check.entry(y, "x", 0, 9, 0, 0, 0, 1);
        Check.due("count 1 and other counters aren't asked", y.counter(10, 5), 4);
    }

    private static void counter() {
        Check.says("Of a COUNTER what 0 ENTRIES in COUNT 0, 1 in COUNT 1, 2 GHOSTS, 3 QUICK in COUNT 0, 4 in COUNT 1, 5 EVENNESS. "
                + "NONE if one can't be, or another what.");
        CountedTwice x = town(20, 3);
        Check.text(x, 2, "away when kind=0;");
        int[] counters = {0, 10};
        for (int c : counters) {
            Check.entry(x, "x", 0, c, 0, 0, 0, 5);
            Check.entry(x, "x", 0, c, 1, 0, 0, 5);
            Check.entry(x, "x", 0, c, 0, 0, 0, 5);
            Check.entry(x, "x", 1, c, 0, 0, 0, 5);
            Check.entry(x, "x", 1, c, 1, 0, 0, 5);
        }
        int[] due = {3, 2, 2, 2, 1, 9};
        for (int what = 0; what < 6; what++) {
            int asked = what;
            Check.due("counter(0, " + what + ")", x.counter(0, what), due[what]);
            Check.due("counter(10, " + what + ")", x.counter(10, what), due[what]);
            Check.due("counter(1, " + what + ")", x.counter(1, what), 0);
            Check.due("counter(9, " + what + ")", x.counter(9, what), 0);
            Check.refused("no counter, what " + what, 0, 10, v -> x.counter(v, asked), -1);
        }
        Check.refused("another what", 0, 5, v -> x.counter(0, v), -1);
        Check.refused("another what", 0, 5, v -> x.counter(10, v), -1);
    }

    private static void waysOfEven() {
        Check.says("WAYS of EVENNESS of a COUNTER (1 without ENTRIES); NONE if one can't be.");
        CountedTwice x = aged(4);
        Check.entry(x, "x", 1, 0, 0, 0, 0, 4);
        Check.due("counter 10", x.even(10), 10);
        Check.due("without entries in count 0", x.even(0), 1);
        Check.due("without entries", x.even(9), 1);
        Check.refused("no counter", 0, 10, v -> x.even(v), -1);
        x.voids(0);
        Check.due("without entries that are known", x.even(10), 1);
    }

    private static void suspect() {
        Check.says("SUSPECT: the COUNTER with the most GHOSTS and QUICK ones of COUNT 0 together (of several the least; NONE without any).");
        Check.says("SUSPECT.");
        CountedTwice x = town(20, 3);
        Check.due("nobody", x.suspect(), -1);
        Check.text(x, 2, "away when kind=3;");
        Check.entry(x, "x", 0, 10, 0, 0, 0, 0);
        Check.entry(x, "x", 1, 9, 3, 0, 0, 0);
        Check.entry(x, "x", 1, 9, 0, 0, 0, 0);
        Check.due("without any: the secret count isn't asked", x.suspect(), -1);
        Check.entry(x, "x", 0, 10, 3, 5, 0, 0);
        Check.due("one ghost, of the last counter", x.suspect(), 10);
        Check.entry(x, "x", 0, 4, 0, 0, 0, 0);
        Check.entry(x, "x", 0, 4, 1, 0, 0, 0);
        Check.due("one quick one, of a lesser one", x.suspect(), 4);
        Check.entry(x, "x", 0, 0, 3, 5, 0, 0);
        Check.due("one ghost, of the least", x.suspect(), 0);
        Check.entry(x, "x", 0, 10, 0, 5, 0, 0);
        Check.due("a ghost and a quick one together", x.suspect(), 10);
        Check.entry(x, "x", 0, 4, 0, 0, 0, 0);
        Check.due("two quick ones", x.suspect(), 4);
        Check.entry(x, "x", 0, 10, 3, 5, 0, 0);
        Check.due("one that is both is two", x.suspect(), 10);
        Check.entry(x, "x", 0, 4, 1, 0, 0, 0);
        Check.entry(x, "x", 0, 4, 0, 0, 0, 0);
        Check.due("four and four", x.suspect(), 4);
        x.voids(5);
        Check.due("one less", x.suspect(), 10);
        x.view(4);
        Check.due("as known then", x.suspect(), 10);
        x.view(3);
        Check.due("nobody then", x.suspect(), -1);
    }

    public static void main(String[] args) {
        missed();
        streetOfTheLeast();
        table();
        ends();
        allCouples();
        theEntriesOfCouples();
        whatOfEnds();
        luck();
        noSuchLuck();
        ghosts();
        quick();
        quickByDays();
        quickByOrder();
        evenness();
        fifteen();
        counter();
        waysOfEven();
        suspect();
        Check.close("EdgeTableTest");
    }
}
