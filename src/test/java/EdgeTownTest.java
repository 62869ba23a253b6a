/** The boundaries of the Terms' beginning and of the houses and ways, and of promises 1 to 6, sentence by sentence. */
public final class EdgeTownTest {
    private static void noHouses() {
        Check.says("No houses.");
        CountedTwice x = new CountedTwice();
        Check.due("look(0)", x.look(0), 0);
        Check.due("look(6)", x.look(6), 0);
        for (int street = 0; street < 12; street++) {
            Check.due("missed of street " + street, x.look(10 + street), 0);
        }
        Check.due("way", x.way(0, 0, 0), -1);
        Check.due("home", x.home(0, 0, 0), -1);
        Check.due("entry", Check.entry(x, "ana", 0, 0, 0, 0, 0, 0), -1);
        Check.due("step", x.step(0, 0, 0), -1);
        Check.due("lots(1)", x.lots(1), -1);
        Check.due("lots(0)", x.lots(0), 0);
        Check.due("the first one", x.house(0, 0, 0), 0);
    }

    private static void emptyAtFirst() {
        CountedTwice x = new CountedTwice();
        int[] ofNothing = {1, 2, 3, 5, 6, 7, 8};
        for (int what : ofNothing) {
            Check.due("look(" + what + ") at first", x.look(what), 0);
        }
        Check.due("view at first", x.look(4), -1);
        Check.due("the tape at first", x.end(1), false);
        Check.due("fault(0) at first", x.fault(0), 0);
        Check.due("fault(1) at first", x.fault(1), -1);
        Check.due("persons at first", x.person(0, 0), -1);
        Check.due("the least at first", x.ends(0), 0);
        Check.due("the most at first", x.ends(1), 0);
        Check.due("suspect at first", x.suspect(), -1);
        Check.due("round at first", x.round(0, 0), -1);
        Check.due("seen at first", x.round(0, 1), 0);
        Check.due("planned at first", x.planned(), 0);
        Check.due("best at first", x.best(), 0);
        Check.due("image at first", x.image(false), false);
        for (int what = 0; what < 5; what++) {
            Check.due("table at first", x.table(-1, what), what == 3 ? -1 : 0);
        }
        for (int c = 0; c < 11; c++) {
            for (int what = 0; what < 6; what++) {
                Check.due("counter at first", x.counter(c, what), 0);
            }
            Check.due("even at first", x.even(c), 1);
        }
    }

    /** What one object is told, another one doesn't know. */
    private static void objectsAreApart() {
        CountedTwice x = new CountedTwice();
        CountedTwice y = new CountedTwice();
        x.state(5);
        x.house(0, 0, 0);
        x.gap(0, 1, 9);
        x.feed(0, 0, 0, 0, 0);
        x.image(true);
        Check.due("another's state", y.look(8), 0);
        Check.due("another's houses", y.look(0), 0);
        Check.due("another's tape", y.end(1), false);
        Check.due("another's image", y.image(false), false);
        y.house(0, 0, 0);
        y.house(1, 0, 0);
        Check.due("another's gap", y.way(0, 1, 0), 100);
        Check.due("its own", x.look(0), 1);
    }

    /** All kinds of calls till the last one that is promised: the 512th. */
    private static void theLastCall() {
        Check.says("An object is used for at most 512 calls after it has been made; what later calls answer is free.");
        for (int sort = 0; sort < 5; sort++) {
            CountedTwice x = Check.houses(60);
            for (int call = 60; call < 511; call++) {
                x.state(call);
            }
            long[] got = {sort == 0 ? x.state(1) : 510, sort == 1 ? x.look(8) : 510, sort == 2 ? x.lots(60) : (1L << 60) - 1,
                sort == 3 ? x.way(59, 0, 0) : 59, sort == 4 ? x.feed(0, 0, 0, 0, 0) : 20};
            long[] want = {510, 510, (1L << 60) - 1, 59, 20};
            Check.due("the 512th call, sort " + sort, got[sort], want[sort]);
        }
    }

    private static void none() {
        Check.says("The constants: `NONE = -1`: None.");
        Check.due("NONE", CountedTwice.NONE, -1);
    }

    private static void state() {
        Check.says("There is one STATE of draws (an int, 0 at first);");
        CountedTwice x = new CountedTwice();
        Check.due("at first", x.look(8), 0);
        Check.says("STATE is told: what it was.");
        int[] some = {Integer.MAX_VALUE, Integer.MIN_VALUE, -1, 0, 1, 65536, Integer.MIN_VALUE + 1};
        int was = 0;
        for (int v : some) {
            Check.due("state(" + v + ")", x.state(v), was);
            Check.due("looked at", x.look(8), v);
            was = v;
        }
    }

    /** The state from which a draw comes to the next one. */
    private static int before(int next) {
        int inverse = 1;
        for (int i = 0; i < 5; i++) {
            inverse *= 2 - 1664525 * inverse;
        }
        return (next - 1013904223) * inverse;
    }

    private static void draws() {
        Check.says("a DRAW of m: it becomes 1664525 times itself + 1013904223 (ints, which wrap), then it is its highest 24 bits "
                + "(without sign) modulo m.");
        int[] nexts = {0, 1, 255, 256, 511, 59 << 8, 60 << 8, (60 << 8) - 1, 61 << 8, Integer.MAX_VALUE, Integer.MIN_VALUE,
            Integer.MIN_VALUE + 255, Integer.MIN_VALUE + 256, -256, -257, -1};
        int[] many = {1, 2, 3, 7, 59, 60};
        for (int next : nexts) {
            for (int m : many) {
                CountedTwice x = Check.houses(m);
                x.state(before(next));
                long drawn = (next & 0xffffffffL) / 256 % m;
                Check.due("a draw of " + m + " by " + next, x.lots(1), 1L << drawn);
                Check.due("the state then", x.look(8), next);
            }
        }
        CountedTwice x = Check.houses(60);
        x.state(before(-1));
        Check.due("16777215 modulo 60", x.lots(1), 1L << 15);
        x.state(0);
        Check.due("3960563 modulo 60", x.lots(1), 1L << 23);
        Check.due("by 1013904223", x.look(8), 1013904223);
        Check.due("wrapped: 1196435762", x.lots(1), 1L << (1196435762 >>> 8) % 60);
        Check.due("by it", x.look(8), 1196435762);
    }

    private static void house() {
        Check.says("HOUSES 0 .. 59 as they come: a STREET 0 .. 11, a NUMBER 0 .. 999 (how far it is from the STREET's beginning), "
                + "a KIND 0 .. 9.");
        CountedTwice x = new CountedTwice();
        Check.due("the least of all", x.house(0, 0, 0), 0);
        Check.due("the greatest street", x.house(11, 0, 0), 1);
        Check.due("the greatest number", x.house(0, 999, 0), 2);
        Check.due("the greatest kind", x.house(0, 0, 9), 3);
        Check.due("the greatest of all", x.house(11, 999, 9), 4);
        Check.due("missed of street 0", x.look(10), 3);
        Check.due("missed of street 11", x.look(21), 2);
        Check.due("number 0 to 999", x.way(0, 2, 0), 999);
        Check.text(x, 2, "away when kind=9; away when street=11;");
        int[] home = {1, 0, 1, 0, 0};
        for (int h = 0; h < 5; h++) {
            Check.due("kind and street of " + h, x.home(h, 0, 0), home[h]);
        }
    }

    private static void noSuchHouse() {
        Check.says("A HOUSE: its number; NONE if one can't be, or there are sixty.");
        CountedTwice x = new CountedTwice();
        x.house(3, 3, 3);
        Check.refused("street", 0, 11, v -> x.house(v, 0, 0), -1);
        Check.refused("number", 0, 999, v -> x.house(0, v, 0), -1);
        Check.refused("kind", 0, 9, v -> x.house(0, 0, v), -1);
        Check.due("only one stands", x.look(0), 1);
        Check.due("the next number", x.house(3, 3, 3), 1);
        for (int h = 2; h < 59; h++) {
            x.house(h % 12, h, h % 10);
        }
        Check.due("the sixtieth", x.house(11, 999, 9), 59);
        Check.due("there are sixty", x.house(0, 0, 0), -1);
        Check.due("still", x.house(11, 999, 9), -1);
        Check.due("sixty stand", x.look(0), 60);
        Check.due("the sixtieth is there", x.way(59, 59, 0), 0);
        Check.due("none behind it", x.way(60, 60, 0), -1);
        Check.due("the first is as it was", x.way(0, 1, 0), 0);
    }

    private static CountedTwice oneHouseEach() {
        CountedTwice x = new CountedTwice();
        for (int street = 0; street < 12; street++) {
            x.house(street, 0, 0);
        }
        return x;
    }

    private static void gaps() {
        Check.says("GAPS between two unlike STREETS (either way) 0 .. 999 (100 at first).");
        CountedTwice first = oneHouseEach();
        CountedTwice told = oneHouseEach();
        int v = 0;
        for (int a = 0; a < 12; a++) {
            for (int b = a + 1; b < 12; b++) {
                Check.due("gap of " + a + ", " + b + " at first", first.way(a, b, 0), 100);
                Check.due("gap of " + b + ", " + a + " at first", first.way(b, a, 0), 100);
                Check.due("told", v % 2 == 0 ? told.gap(a, b, 15 * v) : told.gap(b, a, 15 * v), true);
                v++;
            }
        }
        v = 0;
        for (int a = 0; a < 12; a++) {
            Check.due("within " + a, told.way(a, a, 0), 0);
            for (int b = a + 1; b < 12; b++) {
                Check.due("gap of " + a + ", " + b, told.way(a, b, 0), 15 * v);
                Check.due("gap of " + b + ", " + a, told.way(b, a, 0), 15 * v);
                v++;
            }
        }
    }

    private static void noSuchGap() {
        Check.says("A GAP between two STREETS: true; false if one can't be (one STREET).");
        CountedTwice x = oneHouseEach();
        Check.due("the greatest", x.gap(0, 11, 999), true);
        Check.due("999", x.way(0, 11, 0), 999);
        Check.due("the least", x.gap(11, 0, 0), true);
        Check.due("0", x.way(0, 11, 0), 0);
        Check.due("7", x.gap(0, 11, 7), true);
        Check.refused("a", 0, 11, v -> Check.bit(x.gap(v, 11, 5)), 0);
        Check.refused("b", 0, 11, v -> Check.bit(x.gap(0, v, 5)), 0);
        Check.refused("v", 0, 999, v -> Check.bit(x.gap(0, 11, v)), 0);
        for (int street = 0; street < 12; street++) {
            Check.due("one street", x.gap(street, street, 5), false);
            Check.due("within it", x.way(street, street, 0), 0);
        }
        Check.due("one that can't be, twice", x.gap(12, 12, 5), false);
        Check.due("still 7", x.way(0, 11, 0), 7);
        Check.due("others still 100", x.way(0, 1, 0), 100);
        Check.due("others still 100", x.way(10, 11, 0), 100);
    }

    private static void ways() {
        Check.says("WAY of two HOUSES of one STREET: their NUMBERS apart; else both NUMBERS and the GAP.");
        CountedTwice x = new CountedTwice();
        x.house(4, 0, 0);
        x.house(4, 999, 0);
        x.house(4, 999, 1);
        x.house(5, 0, 0);
        x.house(5, 999, 0);
        Check.due("the farthest of one street", x.way(0, 1, 0), 999);
        Check.due("and back", x.way(1, 0, 0), 999);
        Check.due("two in one place", x.way(1, 2, 0), 0);
        Check.due("itself", x.way(1, 1, 0), 0);
        Check.due("two beginnings", x.way(0, 3, 0), 100);
        Check.due("one number", x.way(1, 3, 0), 1099);
        Check.due("the other one", x.way(0, 4, 0), 1099);
        x.gap(4, 5, 0);
        Check.due("the nearest of two streets", x.way(3, 0, 0), 0);
        Check.due("equal numbers of two streets", x.way(1, 4, 0), 1998);
        x.gap(4, 5, 999);
        Check.due("the farthest of two streets", x.way(1, 4, 0), 2997);
        Check.due("and back", x.way(4, 1, 0), 2997);
    }

    private static void minutes() {
        Check.says("Quotients go downwards (to the lesser one).");
        CountedTwice x = new CountedTwice();
        int[] numbers = {0, 1, 49, 50, 99, 100, 101, 999};
        for (int number : numbers) {
            x.house(0, number, 0);
        }
        x.house(1, 999, 0);
        int[][] rows = {{2, 5, 5, 5, 5, 6, 6, 7, 7, 24}, {1, 0, 0, 0, 0, 0, 0, 1, 1, 9}, {99, 99, 99, 99, 147, 148, 197, 198, 198, 1088},
            {0, 99, 99, 99, 99, 99, 99, 99, 99, 99}, {50, 0, 0, 0, 24, 25, 49, 50, 50, 499}};
        for (int[] row : rows) {
            if (row[0] != 2) {
                x.set(0, row[0]);
                x.set(1, row[1]);
            }
            for (int h = 0; h < numbers.length; h++) {
                Check.due("minutes to " + numbers[h] + " at pace " + row[0], x.way(0, h, 1), row[h + 2]);
                Check.due("and back", x.way(h, 0, 1), row[h + 2]);
            }
        }
        Check.says("MINUTES of a WAY: WAY times PACE (0 .. 99; 2 at first) by 100, and SIT (0 .. 99; 5 at first).");
        x.set(0, 99);
        x.set(1, 99);
        x.gap(0, 1, 999);
        Check.due("the most minutes of all", x.way(7, 8, 1), 3066);
        x.set(0, 0);
        x.set(1, 0);
        Check.due("the fewest", x.way(7, 8, 1), 0);
    }

    private static void set() {
        Check.says("What 0 PACE, 1 SIT: true; false if one can't be, or another what.");
        CountedTwice x = new CountedTwice();
        x.house(0, 0, 0);
        x.house(0, 100, 0);
        Check.due("both at first", x.way(0, 1, 1), 7);
        for (int v : new int[] {0, 99, 1, 98}) {
            Check.due("pace", x.set(0, v), true);
            Check.due("pace " + v, x.way(0, 1, 1), v + 5);
        }
        x.set(0, 0);
        for (int v : new int[] {0, 99, 1, 98}) {
            Check.due("sit", x.set(1, v), true);
            Check.due("sit " + v, x.way(0, 1, 1), v);
        }
        x.set(0, 3);
        x.set(1, 4);
        Check.refused("pace", 0, 99, v -> Check.bit(x.set(0, v)), 0);
        Check.refused("sit", 0, 99, v -> Check.bit(x.set(1, v)), 0);
        Check.refused("another what", 0, 1, v -> Check.bit(x.set(v, 9)), 0);
        Check.due("both as they were", x.way(0, 1, 1), 7);
        Check.due("sit as it was", x.way(0, 0, 1), 4);
    }

    private static void way() {
        Check.says("WAY (what 0), MINUTES (1) of two HOUSES; NONE if one can't be, or another what.");
        CountedTwice x = Check.houses(3);
        Check.due("the last one", x.way(2, 0, 0), 2);
        Check.due("the last one", x.way(0, 2, 0), 2);
        Check.refused("a", 0, 2, v -> x.way(v, 0, 0), -1);
        Check.refused("a, minutes", 0, 2, v -> x.way(v, 0, 1), -1);
        Check.refused("b", 0, 2, v -> x.way(0, v, 0), -1);
        Check.refused("b, minutes", 0, 2, v -> x.way(0, v, 1), -1);
        Check.refused("what", 0, 1, v -> x.way(0, 2, v), -1);
        Check.due("both can't be", x.way(3, 3, 0), -1);
        x.house(0, 3, 0);
        Check.due("the fourth, now it stands", x.way(3, 0, 0), 3);
    }

    public static void main(String[] args) {
        noHouses();
        emptyAtFirst();
        objectsAreApart();
        theLastCall();
        none();
        state();
        draws();
        house();
        noSuchHouse();
        gaps();
        noSuchGap();
        ways();
        minutes();
        set();
        way();
        Check.close("EdgeTownTest");
    }
}
