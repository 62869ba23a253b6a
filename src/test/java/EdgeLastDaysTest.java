import java.util.HashSet;
import java.util.Random;
import java.util.Set;

/** The boundaries of the missed houses, the last days and the lots, and of promises 26 to 31, sentence by sentence. */
public final class EdgeLastDaysTest {
    /** So many houses in each street, which has the slot of its number. */
    private static CountedTwice town(int... missed) {
        CountedTwice x = new CountedTwice();
        for (int street = 0; street < missed.length; street++) {
            for (int i = 0; i < missed[street]; i++) {
                x.house(street, i, 0);
            }
            x.last(0, street, street);
        }
        return x;
    }

    private static void missedHouses() {
        Check.says("MISSED HOUSES are those without any ENTRY;");
        CountedTwice x = new CountedTwice();
        Check.due("none of none", x.look(6), 0);
        x.house(0, 0, 0);
        x.house(11, 0, 0);
        x.house(11, 0, 0);
        Check.due("all", x.look(6), 3);
        Check.entry(x, "a", 0, 0, 1, 0, 0, 0);
        Check.due("an open entry", x.look(6), 2);
        Check.due("of its street", x.look(21), 1);
        Check.entry(x, "a", 1, 0, 2, 0, 0, 0);
        Check.due("a secret entry", x.look(6), 1);
        Check.due("none of the street", x.look(21), 0);
        Check.entry(x, "a", 1, 0, 1, 0, 0, 0);
        x.voids(0);
        Check.due("one of two is left", x.look(21), 0);
        x.voids(2);
        Check.due("none is left", x.look(21), 1);
        Check.entry(x, "a", 1, 0, 0, 0, 0, 0);
        Check.due("the first street", x.look(10), 0);
        Check.due("one is missed", x.look(6), 1);
    }

    private static void slots() {
        Check.says("LAST DAYS: up to 6 COUNTERS, 4 days, 5 of the STREETS (SLOTS 0 .. 4, each a STREET that no other one has, or none):");
        CountedTwice x = new CountedTwice();
        for (int slot = 0; slot < 5; slot++) {
            Check.due("none at first", x.look(30 + slot), -1);
        }
        for (int slot = 0; slot < 5; slot++) {
            Check.due("a street", x.last(0, slot, slot == 0 ? 0 : 7 + slot), true);
        }
        for (int slot = 0; slot < 5; slot++) {
            int own = slot == 0 ? 0 : 7 + slot;
            for (int other = 0; other < 5; other++) {
                Check.due("slot " + other + " has it, or its own", x.last(0, slot, other == 0 ? 0 : 7 + other), slot == other);
            }
            Check.due("as it was", x.look(30 + slot), own);
            Check.due("none", x.last(0, slot, -1), true);
            Check.due("none again", x.last(0, slot, -1), true);
            Check.due("looked at", x.look(30 + slot), -1);
            Check.due("now another can have it", x.last(0, (slot + 1) % 5, own), true);
            Check.due("and no one else", x.last(0, slot, own), false);
            Check.due("still none", x.look(30 + slot), -1);
            x.last(0, (slot + 1) % 5, -1);
            Check.due("back", x.last(0, slot, own), true);
            int next = (slot + 1) % 5;
            x.last(0, next, next == 0 ? 0 : 7 + next);
        }
    }

    private static void last() {
        Check.says("What 0 STREET of SLOT i (NONE: none), 1 STRENGTH of COUNTER i, 2 days (1 .. 4; i not asked; 1 at first), "
                + "3 COUNTERS (1 .. 6; i not asked; 1 at first): true; false if one can't be, or another what.");
        CountedTwice x = new CountedTwice();
        Check.due("days at first", x.look(50), 1);
        Check.due("counters at first", x.look(51), 1);
        Check.due("the least street", x.last(0, 0, 0), true);
        Check.due("the greatest street of the last slot", x.last(0, 4, 11), true);
        Check.refused("slot", 0, 4, v -> Check.bit(x.last(0, v, 5)), 0);
        Check.refused("slot without a street", 0, 4, v -> Check.bit(x.last(0, v, -1)), 0);
        Check.refused("street", -1, 11, v -> Check.bit(x.last(0, 4, v)), 0);
        Check.due("as it was", x.look(34), 11);
        for (int c = 0; c < 6; c++) {
            Check.due("strength at first", x.look(40 + c), 0);
            Check.due("the greatest", x.last(1, c, 9), true);
            Check.due("looked at", x.look(40 + c), 9);
            Check.due("the least", x.last(1, c, 0), true);
            Check.due("looked at", x.look(40 + c), 0);
            x.last(1, c, c + 1);
        }
        Check.refused("counter", 0, 5, v -> Check.bit(x.last(1, v, 5)), 0);
        Check.refused("strength", 0, 9, v -> Check.bit(x.last(1, 3, v)), 0);
        for (int c = 0; c < 6; c++) {
            Check.due("as they were", x.look(40 + c), c + 1);
        }
        Check.refused("another what", 0, 3, v -> Check.bit(x.last(v, 1, 1)), 0);
    }

    private static void daysAndCounters() {
        CountedTwice x = new CountedTwice();
        int[] most = {4, 6};
        for (int sort = 0; sort < 2; sort++) {
            int what = 2 + sort;
            int looked = 50 + sort;
            for (int i : new int[] {0, -1, 6, Integer.MIN_VALUE, Integer.MAX_VALUE}) {
                for (int v = 1; v <= most[sort]; v++) {
                    Check.due("last(" + what + ", " + i + ", " + v + ")", x.last(what, i, v), true);
                    Check.due("looked at", x.look(looked), v);
                }
            }
            x.last(what, 0, 2);
            Check.refused("what " + what, 1, most[sort], v -> Check.bit(x.last(what, 0, v)), 0);
            Check.due("as it was", x.look(looked), 2);
        }
        Check.due("days 0", x.last(2, 0, 0), false);
        Check.due("days 5, as counters may be", x.last(2, 0, 5), false);
        Check.due("counters 0", x.last(3, 0, 0), false);
        Check.due("both as they were", x.look(50) + 10 * x.look(51), 22);
    }

    private static void strengths() {
        Check.says("a COUNTER goes to one SLOT (or none) on each day; he sees so many of its MISSED HOUSES (9 at most are counted) "
                + "that nobody saw yet as his STRENGTH 0 .. 9 (0 at first) is;");
        for (int houses : new int[] {0, 1, 2, 8, 9, 10, 11, 20, 60}) {
            CountedTwice x = town(houses);
            x.plan(0, 0, 0);
            x.plan(0, 1, 0);
            for (int strength : new int[] {0, 1, 2, 8, 9}) {
                x.last(1, 0, strength);
                for (int days = 1; days <= 2; days++) {
                    x.last(2, 0, days);
                    int due = Math.min(Math.min(9, houses), days * strength);
                    Check.due(houses + " houses, strength " + strength + ", days " + days, x.planned(), due);
                    Check.due("best of them", x.best(), due);
                }
            }
        }
        CountedTwice x = town(5);
        x.plan(0, 0, 0);
        Check.due("without strength at first", x.planned(), 0);
        Check.due("without strength at first", x.best(), 0);
    }

    /** Nine are counted of those missed, not of all; the first nine are no others. */
    private static void nineOfTheMissed() {
        CountedTwice x = town(12);
        x.last(1, 0, 9);
        x.last(2, 0, 4);
        for (int d = 0; d < 4; d++) {
            x.plan(0, d, 0);
        }
        for (int h = 0; h < 12; h++) {
            int left = Math.min(9, 12 - h);
            Check.due("missed " + (12 - h), x.planned(), left);
            Check.due("best of " + (12 - h), x.best(), left);
            Check.entry(x, "x", 0, 0, h, 0, 0, 0);
        }
        Check.due("none is missed", x.planned(), 0);
        Check.due("none is missed", x.best(), 0);
    }

    private static void closed() {
        Check.says("a SLOT is CLOSED on a day or not (not at first): nobody goes there then.");
        for (int slot = 0; slot < 5; slot++) {
            for (int day = 0; day < 4; day++) {
                CountedTwice x = town(9, 9, 9, 9, 9);
                x.last(1, 0, 2);
                x.last(2, 0, 4);
                for (int d = 0; d < 4; d++) {
                    x.plan(0, d, slot);
                }
                for (int s = 0; s < 5; s++) {
                    if (s != slot) {
                        x.last(0, s, -1);
                    }
                }
                Check.due("open at first", x.planned(), 8);
                Check.due("open at first", x.best(), 8);
                Check.due("closed", x.closed(slot, day, true), true);
                Check.due("closed on " + day, x.planned(), 6);
                Check.due("closed on " + day, x.best(), 6);
                Check.due("closed again", x.closed(slot, day, true), true);
                for (int days = 1; days <= 4; days++) {
                    x.last(2, 0, days);
                    Check.due("of " + days + " days", x.planned(), 2 * (days - (day < days ? 1 : 0)));
                    Check.due("best of " + days + " days", x.best(), 2 * (days - (day < days ? 1 : 0)));
                }
                Check.due("another slot", x.closed((slot + 1) % 5, (day + 1) % 4, true), true);
                Check.due("another slot", x.planned(), 6);
                Check.due("opened", x.closed(slot, day, false), true);
                Check.due("opened", x.planned(), 8);
                Check.due("opened", x.best(), 8);
            }
        }
    }

    private static void noSuchClosed() {
        Check.says("A SLOT is CLOSED on a day (0 .. 3) or not: true; false if one can't be.");
        CountedTwice x = town(9, 9, 9, 9, 9);
        x.last(1, 0, 1);
        x.last(2, 0, 4);
        for (int d = 0; d < 4; d++) {
            x.plan(0, d, 4);
        }
        for (boolean is : new boolean[] {true, false}) {
            Check.refused("slot", 0, 4, v -> Check.bit(x.closed(v, 0, is)), 0);
            Check.refused("slot", 0, 4, v -> Check.bit(x.closed(v, 3, is)), 0);
            Check.refused("day", 0, 3, v -> Check.bit(x.closed(0, v, is)), 0);
            Check.refused("day", 0, 3, v -> Check.bit(x.closed(4, v, is)), 0);
            Check.due("as it was", x.planned(), is ? 4 : 0);
            for (int slot = 0; slot < 5; slot++) {
                for (int d = 0; d < 4; d++) {
                    Check.due("closed", x.closed(slot, d, true), true);
                }
            }
            Check.due("all closed", x.planned(), 0);
            Check.due("all closed", x.best(), 0);
        }
    }

    private static void plan() {
        Check.says("The PLAN of a COUNTER (0 .. 5) on a day (0 .. 3) is a SLOT (NONE: none; so at first): true; false if one can't be.");
        CountedTwice x = town(9, 8, 7, 6, 5);
        x.last(2, 0, 4);
        x.last(3, 0, 6);
        for (int c = 0; c < 6; c++) {
            x.last(1, c, 9);
        }
        Check.due("none at first", x.planned(), 0);
        Check.due("the edges", x.plan(5, 3, 4), true);
        Check.due("the edges", x.plan(0, 0, 0), true);
        Check.due("both go", x.planned(), 14);
        Check.refused("counter", 0, 5, v -> Check.bit(x.plan(v, 0, 1)), 0);
        Check.refused("day", 0, 3, v -> Check.bit(x.plan(0, v, 1)), 0);
        Check.refused("slot", -1, 4, v -> Check.bit(x.plan(0, 0, v)), 0);
        Check.refused("slot of the last", -1, 4, v -> Check.bit(x.plan(5, 3, v)), 0);
        Check.due("as it was", x.planned(), 14);
        Check.due("he stays", x.plan(0, 0, -1), true);
        Check.due("five", x.planned(), 5);
        Check.due("he goes elsewhere", x.plan(5, 3, 1), true);
        Check.due("eight", x.planned(), 8);
        Check.due("and stays", x.plan(5, 3, -1), true);
        Check.due("nothing", x.planned(), 0);
    }

    /** Each counter and day has a plan of its own, and only those of the told number of counters and days go. */
    private static void plansAreApart() {
        Check.says("A PLAN tells for each COUNTER and day a SLOT or none; PLANNED: by days, COUNTERS in their order: how many they see together "
                + "(to a CLOSED one, or one without a STREET: nothing).");
        Check.says("PLANNED.");
        for (int counter = 0; counter < 6; counter++) {
            for (int day = 0; day < 4; day++) {
                CountedTwice x = town(9, 9, 9, 9, 9);
                x.last(1, counter, 3);
                x.plan(counter, day, (counter + day) % 5);
                for (int counters = 1; counters <= 6; counters++) {
                    x.last(3, 0, counters);
                    for (int days = 1; days <= 4; days++) {
                        x.last(2, 0, days);
                        Check.due("counter " + counter + " on " + day + " of " + counters + ", " + days, x.planned(),
                                counter < counters && day < days ? 3 : 0);
                    }
                }
                Check.due("all closed but there", closeOthers(x, (counter + day) % 5, day), 3);
                x.closed((counter + day) % 5, day, true);
                Check.due("closed there", x.planned(), 0);
                x.closed((counter + day) % 5, day, false);
                x.last(0, (counter + day) % 5, -1);
                Check.due("without a street", x.planned(), 0);
            }
        }
    }

    private static int closeOthers(CountedTwice x, int slot, int day) {
        for (int s = 0; s < 5; s++) {
            for (int d = 0; d < 4; d++) {
                x.closed(s, d, s != slot || d != day);
            }
        }
        return x.planned();
    }

    private static void together() {
        CountedTwice x = town(5, 3);
        x.last(3, 0, 3);
        x.last(2, 0, 2);
        int[] strengths = {2, 2, 2};
        for (int c = 0; c < 3; c++) {
            x.last(1, c, strengths[c]);
            x.plan(c, 0, 0);
        }
        Check.due("2 and 2 and the one that is left", x.planned(), 5);
        x.plan(0, 1, 0);
        Check.due("nothing is left for the next day", x.planned(), 5);
        x.plan(2, 0, 1);
        Check.due("the next day one is left", x.planned(), 7);
        x.plan(1, 1, 1);
        Check.due("and one there", x.planned(), 8);
        Check.due("asking again", x.planned(), 8);
        x.closed(0, 0, true);
        Check.due("closed at first: two on the next day", x.planned(), 5);
        x.closed(0, 0, false);
        Check.due("a house", x.house(0, 99, 0), 8);
        Check.due("one more to see, two could", x.planned(), 9);
        Check.due("a house", x.house(0, 99, 0), 9);
        Check.due("none of them could see", x.planned(), 9);
    }

    private static void best(int due, int days, int[] strengths, int... missed) {
        CountedTwice x = town(missed);
        x.last(2, 0, days);
        x.last(3, 0, strengths.length);
        for (int c = 0; c < strengths.length; c++) {
            x.last(1, c, strengths[c]);
        }
        Check.due("best", x.best(), due);
        Check.due("asked again", x.best(), due);
        Check.due("no plan was told by it", x.planned(), 0);
    }

    private static void best() {
        Check.says("BEST: the most that any plan sees.");
        Check.says("BEST.");
        best(0, 1, new int[] {0});
        best(0, 1, new int[] {9}, 0);
        best(1, 1, new int[] {9}, 1);
        best(1, 1, new int[] {1}, 9);
        best(9, 1, new int[] {9}, 9, 8);
        best(9, 1, new int[] {9}, 8, 9);
        best(17, 2, new int[] {9}, 8, 9);
        best(12, 1, new int[] {3, 2, 2, 3, 2}, 6, 6);
        best(10, 1, new int[] {4, 4, 4}, 6, 5);
        best(10, 1, new int[] {4, 4, 2}, 6, 5);
        best(10, 1, new int[] {5, 5}, 5, 9);
        best(9, 1, new int[] {5, 5}, 5, 4);
        best(45, 4, new int[] {9, 9, 9, 9, 9, 9}, 9, 9, 9, 9, 9);
        best(45, 4, new int[] {9, 9, 9, 9, 9, 9}, 12, 12, 12, 12, 12);
        best(44, 4, new int[] {9, 9, 9, 9, 9, 9}, 9, 9, 9, 9, 8);
        best(44, 4, new int[] {2, 2, 2, 2, 2, 2}, 9, 9, 9, 9, 9);
        best(24, 4, new int[] {1, 1, 1, 1, 1, 1}, 9, 9, 9, 9, 9);
        best(23, 4, new int[] {1, 1, 1, 1, 1, 1}, 9, 9, 5);
        best(6, 1, new int[] {1, 1, 1, 1, 1, 1}, 9, 9, 9, 9, 9);
        best(36, 1, new int[] {9, 9, 9, 9}, 9, 9, 9, 9, 9);
        best(41, 1, new int[] {9, 9, 9, 9, 5}, 9, 9, 9, 9, 9);
        best(45, 1, new int[] {9, 9, 9, 9, 5, 4}, 9, 9, 9, 9, 9);
        best(44, 1, new int[] {9, 9, 9, 9, 5, 3}, 9, 9, 9, 9, 9);
    }

    /** Where a slot is closed on a day, the best plan goes there on another one, if that pays. */
    private static void bestRoundClosed() {
        CountedTwice x = town(6, 3);
        x.last(1, 0, 6);
        x.last(2, 0, 2);
        Check.due("six and three", x.best(), 9);
        x.closed(1, 0, true);
        Check.due("three on the next day", x.best(), 9);
        x.closed(0, 1, true);
        Check.due("six on the first", x.best(), 9);
        x.closed(0, 0, true);
        Check.due("three alone", x.best(), 3);
        x.closed(1, 1, true);
        Check.due("nothing", x.best(), 0);
        x.closed(0, 0, false);
        x.last(2, 0, 1);
        Check.due("six alone", x.best(), 6);
        x.last(0, 0, -1);
        Check.due("without its street", x.best(), 0);
        x.last(0, 4, 0);
        Check.due("by another slot, which isn't closed", x.best(), 6);
        x = town(6, 5, 9);
        int[] strengths = {3, 3, 1};
        for (int c = 0; c < 3; c++) {
            x.last(1, c, strengths[c]);
        }
        x.last(3, 0, 3);
        x.closed(2, 0, true);
        Check.due("all three see what they can in the two others", x.best(), 7);
    }

    /** All that any plan leaves, a decimal digit for each slot: every counter goes to each slot, or stays. */
    private static int mostByAll(int[] missed, int[] strengths, int days, boolean[][] closed) {
        int all = 0;
        int start = 0;
        for (int slot = missed.length - 1; slot >= 0; slot--) {
            start = 10 * start + missed[slot];
            all += missed[slot];
        }
        Set<Integer> lefts = new HashSet<>(Set.of(start));
        for (int turn = 0; turn < days * strengths.length; turn++) {
            Set<Integer> next = new HashSet<>(lefts);
            for (int left : lefts) {
                int weight = 1;
                for (int slot = 0; slot < missed.length; slot++) {
                    int here = left / weight % 10;
                    if (!closed[slot][turn / strengths.length]) {
                        next.add(left - weight * Math.min(here, strengths[turn % strengths.length]));
                    }
                    weight *= 10;
                }
            }
            lefts = next;
        }
        int least = all;
        for (int left : lefts) {
            int sum = 0;
            for (int rest = left; rest > 0; rest /= 10) {
                sum += rest % 10;
            }
            least = Math.min(least, sum);
        }
        return all - least;
    }

    private static void bestByAll() {
        Random random = new Random(11);
        for (int i = 0; i < 1000; i++) {
            int[] missed = new int[2 + random.nextInt(i < 980 ? 2 : 4)];
            for (int slot = 0; slot < missed.length; slot++) {
                missed[slot] = 5 + random.nextInt(5);
            }
            int[] strengths = new int[1 + random.nextInt(6)];
            int days = 1 + random.nextInt(4);
            CountedTwice x = town(missed);
            x.last(2, 0, days);
            x.last(3, 0, strengths.length);
            for (int c = 0; c < strengths.length; c++) {
                strengths[c] = random.nextInt(random.nextInt(3) == 0 ? 10 : 5);
                x.last(1, c, strengths[c]);
            }
            boolean[][] closed = new boolean[5][4];
            for (int slot = 0; slot < 5; slot++) {
                for (int d = 0; d < 4; d++) {
                    closed[slot][d] = random.nextInt(3) == 0;
                    x.closed(slot, d, closed[slot][d]);
                }
            }
            Check.due("best by all plans, town " + i, x.best(), mostByAll(missed, strengths, days, closed));
        }
    }

    /** By what each slot was given so far, cut at its houses: all choices of each counter and day, staying too. */
    private static int mostBySums(int[] missed, int[] strengths, int days, boolean[][] closed) {
        int[] weights = new int[5];
        int all = 1;
        for (int slot = 0; slot < 5; slot++) {
            weights[slot] = all;
            all *= Math.min(9, missed[slot]) + 1;
        }
        boolean[] reached = new boolean[all];
        reached[0] = true;
        for (int go = 0; go < days * strengths.length; go++) {
            boolean[] next = reached.clone();
            for (int sums = 0; sums < all; sums++) {
                for (int slot = 0; reached[sums] && slot < 5; slot++) {
                    int most = Math.min(9, missed[slot]);
                    int here = sums / weights[slot] % (most + 1);
                    int then = Math.min(most, here + strengths[go % strengths.length]);
                    if (!closed[slot][go / strengths.length]) {
                        next[sums + (then - here) * weights[slot]] = true;
                    }
                }
            }
            reached = next;
        }
        int best = 0;
        for (int sums = 0; sums < all; sums++) {
            int seen = 0;
            for (int slot = 0; slot < 5; slot++) {
                seen += sums / weights[slot] % (Math.min(9, missed[slot]) + 1);
            }
            best = reached[sums] ? Math.max(best, seen) : best;
        }
        return best;
    }

    /** Towns with too many plans to go through one by one: five slots, all days, all counters. */
    private static void bestOfGreatTowns() {
        Check.says("BEST: the most that any plan sees.");
        Random random = new Random(77);
        for (int i = 0; i < 60; i++) {
            CountedTwice x = new CountedTwice();
            int[] missed = new int[5];
            for (int slot = 0; slot < 5; slot++) {
                missed[slot] = i % 3 == 0 ? 9 + random.nextInt(4) : random.nextInt(13);
                for (int h = 0; h < missed[slot]; h++) {
                    x.house(slot, h, 0);
                }
                x.last(0, slot, slot);
            }
            x.last(2, 0, 4);
            x.last(3, 0, 6);
            for (int turn = 0; turn < 5; turn++) {
                int[] strengths = new int[6];
                for (int c = 0; c < 6; c++) {
                    strengths[c] = random.nextInt(turn < 3 ? 3 : 10);
                    x.last(1, c, strengths[c]);
                }
                boolean[][] closed = new boolean[5][4];
                for (int slot = 0; slot < 5; slot++) {
                    for (int d = 0; d < 4; d++) {
                        closed[slot][d] = random.nextInt(4) < turn - 1;
                        x.closed(slot, d, closed[slot][d]);
                    }
                }
                Check.due("best of great town " + i + ", " + turn, x.best(), mostBySums(missed, strengths, 4, closed));
            }
        }
    }

    private static void lots() {
        Check.says("LOTS: of the MISSED HOUSES, in their order, k by DRAWS: of n left a DRAW of n, that one goes; as a set.");
        CountedTwice x = Check.houses(60);
        Check.due("all sixty", x.lots(60), (1L << 60) - 1);
        x.state(0);
        // From 0 the state becomes 1013904223: its highest 24 bits are 3960563, of 60 the 23rd.
        Check.due("one of sixty", x.lots(1), 1L << 23);
        x.state(0);
        int second = (1196435762 >>> 8) % 59;
        Check.due("two of sixty", x.lots(2), 1L << 23 | 1L << (second < 23 ? second : second + 1));
        Check.due("the state of two draws", x.look(8), 1196435762);
        for (int h = 0; h < 59; h++) {
            Check.entry(x, "x", 0, 0, h, 0, 0, 0);
        }
        Check.due("the last of all", x.lots(1), 1L << 59);
        Check.due("the first one's view", x.view(0), true);
        Check.due("all sixty then", x.lots(60), (1L << 60) - 1);
    }

    private static void noSuchLots() {
        Check.says("LOTS: k MISSED HOUSES (0 .. how many there are), as a set; NONE, and nothing is drawn, if one can't be.");
        for (int houses : new int[] {0, 1, 2, 59, 60}) {
            CountedTwice x = Check.houses(houses);
            x.state(777);
            Check.due("none", x.lots(0), 0);
            Check.refused("k of " + houses, 0, houses, v -> x.lots(v), -1);
            Check.due("nothing is drawn", x.look(8), 777);
            Check.due("all", x.lots(houses), (1L << houses) - 1);
            int s = 777;
            for (int i = 0; i < houses; i++) {
                s = s * 1664525 + 1013904223;
            }
            Check.due("so many draws", x.look(8), s);
            Check.due("all are missed still", x.look(6), houses);
        }
        CountedTwice x = Check.houses(3);
        Check.entry(x, "x", 0, 0, 1, 0, 0, 0);
        Check.due("three of two", x.lots(3), -1);
        Check.due("two of two", x.lots(2), 5);
        x.view(0);
        Check.due("three of three, then", x.lots(3), 7);
        Check.due("four", x.lots(4), -1);
    }

    public static void main(String[] args) {
        missedHouses();
        slots();
        last();
        daysAndCounters();
        strengths();
        nineOfTheMissed();
        closed();
        noSuchClosed();
        plan();
        plansAreApart();
        together();
        best();
        bestRoundClosed();
        bestByAll();
        bestOfGreatTowns();
        lots();
        noSuchLots();
        Check.close("EdgeLastDaysTest");
    }
}
