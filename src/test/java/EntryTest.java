/** Promises 11 to 14: entry, voids, view, of. */
public final class EntryTest {
    private static void entry() {
        CountedTwice x = new CountedTwice();
        Check.due("11: no house", Check.entry(x, "ana", 0, 0, 0, 0, 0, 0), -1);
        x.house(4, 5, 6);
        x.house(4, 5, 6);
        Check.due("11: least", Check.entry(x, "a", 0, 0, 0, 0, 0, 0), 0);
        Check.due("11: greatest", Check.entry(x, "zzzzzzzz", 1, 10, 1, 99, 1439, 119), 1);
        int[][] wrong = {{-1, 0, 0, 0, 0, 0}, {2, 0, 0, 0, 0, 0}, {0, -1, 0, 0, 0, 0}, {0, 11, 0, 0, 0, 0},
            {0, 0, -1, 0, 0, 0}, {0, 0, 2, 0, 0, 0}, {0, 0, 0, -1, 0, 0}, {0, 0, 0, 100, 0, 0},
            {0, 0, 0, 0, -1, 0}, {0, 0, 0, 0, 1440, 0}, {0, 0, 0, 0, 0, -1}, {0, 0, 0, 0, 0, 120}};
        for (int[] w : wrong) {
            Check.due("11: can't be", Check.entry(x, "ana", w[0], w[1], w[2], w[3], w[4], w[5]), -1);
        }
        String[] names = {"", "abcdefghi", "Bob", "an a", "ana ", " ana", "an1", "an\n", "an" + (char) 225, "a`", "a{"};
        for (String name : names) {
            Check.due("11: no name '" + name + "'", Check.entry(x, name, 0, 0, 0, 0, 0, 0), -1);
        }
        Check.due("11: time", x.look(3), 2);
        for (int e = 2; e < 120; e++) {
            Check.due("11: entry " + e, Check.entry(x, "ana", 0, 0, 0, 0, 0, 0), e);
        }
        Check.due("11: there are 120", Check.entry(x, "ana", 0, 0, 0, 0, 0, 0), -1);
        Check.due("12: a void makes no room", x.voids(3), true);
        Check.due("11: there are 120", Check.entry(x, "ana", 0, 0, 0, 0, 0, 0), -1);
        Check.due("11: time", x.look(3), 121);
    }

    private static void of() {
        CountedTwice x = new CountedTwice();
        x.house(0, 0, 0);
        x.house(0, 0, 0);
        Check.entry(x, "bez", 1, 7, 1, 42, 1234, 56);
        int[] due = {1, 7, 1, 42, 1234, 56, 3, 1, 0, -1, 1, 4, 25, -1};
        for (int what = 0; what < due.length; what++) {
            Check.due("14: what " + what, x.of(0, what), due[what]);
        }
        Check.due("14: another what", x.of(0, -1), -1);
        Check.due("14: another what", x.of(0, 18), -1);
        Check.due("14: another what", x.of(0, Integer.MIN_VALUE), -1);
        Check.due("14: another what", x.of(0, Integer.MAX_VALUE), -1);
        Check.due("14: none such", x.of(1, 0), -1);
        Check.due("14: none such", x.of(-1, 0), -1);
        Check.entry(x, "abcdefgh", 0, 0, 0, 0, 0, 0);
        Check.due("14: the last letter", x.of(1, 17), 7);
        Check.due("14: its person", x.of(1, 8), 1);
        x.voids(0);
        Check.due("14: not known", x.of(0, 7), 0);
        Check.due("14: no person then", x.of(0, 8), -1);
        Check.due("14: known or not", x.of(0, 4), 1234);
        Check.due("14: known or not", x.of(0, 12), 25);
        Check.due("14: the others' persons are numbered anew", x.of(1, 8), 0);
    }

    private static void voidsAndView() {
        CountedTwice x = new CountedTwice();
        x.house(0, 0, 0);
        Check.due("12: none such", x.voids(0), false);
        Check.entry(x, "a", 0, 0, 0, 0, 0, 0);
        Check.entry(x, "b", 0, 0, 0, 0, 0, 0);
        Check.due("12: void", x.voids(0), true);
        Check.due("12: it is", x.voids(0), false);
        Check.due("12: none such", x.voids(2), false);
        Check.due("12: none such", x.voids(-1), false);
        Check.entry(x, "c", 0, 0, 0, 0, 0, 0);
        Check.due("12: time counts it", x.look(3), 4);
        int[][] known = {{0, 0, 0}, {1, 0, 0}, {1, 1, 0}, {0, 1, 0}, {0, 1, 1}};
        for (int time = 0; time <= 4; time++) {
            Check.due("13: view " + time, x.view(time), true);
            Check.due("13: looked at", x.look(4), time);
            for (int e = 0; e < 3; e++) {
                Check.due("13: entry " + e + " at " + time, x.of(e, 7), known[time][e]);
            }
        }
        Check.due("13: beyond now", x.view(5), false);
        Check.due("13: below", x.view(-2), false);
        Check.due("13: stays", x.look(4), 4);
        Check.entry(x, "d", 0, 0, 0, 0, 0, 0);
        Check.due("13: a told time stays though time goes on", x.of(3, 7), 0);
        Check.due("13: known ones", x.look(2), 2);
        Check.due("13: told ones", x.look(1), 4);
        Check.due("13: now", x.view(-1), true);
        Check.due("13: now goes on", x.of(3, 7), 1);
        Check.due("13: none at 0", x.view(0), true);
        Check.due("12: voids don't ask the view", x.voids(3), true);
        Check.due("13: missed as known then", x.look(6), 1);
        x.view(-1);
        Check.due("12: gone now", x.of(3, 7), 0);
    }

    public static void main(String[] args) {
        entry();
        of();
        voidsAndView();
        Check.close("EntryTest");
    }
}
