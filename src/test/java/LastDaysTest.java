/** Promises 26 to 30: last, closed, plan, planned, best. */
public final class LastDaysTest {
    private static CountedTwice town(int... missed) {
        CountedTwice x = new CountedTwice();
        for (int street = 0; street < missed.length; street++) {
            for (int i = 0; i < missed[street]; i++) {
                x.house(street, i, 0);
            }
            x.last(0, street, street);
        }
        return x;
    }

    private static void last() {
        CountedTwice x = new CountedTwice();
        for (int i = 0; i < 5; i++) {
            Check.due("26: no street at first", x.look(30 + i), -1);
            Check.due("26: slot " + i, x.last(0, i, 11 - i), true);
            Check.due("26: looked at", x.look(30 + i), 11 - i);
        }
        Check.due("26: another one has it", x.last(0, 0, 10), false);
        Check.due("26: another one has it", x.last(0, 4, 11), false);
        Check.due("26: its own again", x.last(0, 0, 11), true);
        Check.due("26: none", x.last(0, 1, -1), true);
        Check.due("26: none twice", x.last(0, 2, -1), true);
        Check.due("26: none is looked at", x.look(31), -1);
        Check.due("26: it is free again", x.last(0, 0, 10), true);
        Check.due("26: slot 5", x.last(0, 5, 0), false);
        Check.due("26: slot -1", x.last(0, -1, 0), false);
        Check.due("26: street 12", x.last(0, 0, 12), false);
        Check.due("26: street -2", x.last(0, 0, -2), false);
        for (int i = 0; i < 6; i++) {
            Check.due("26: strength 0 at first", x.look(40 + i), 0);
            Check.due("26: strength", x.last(1, i, 9 - i), true);
            Check.due("26: looked at", x.look(40 + i), 9 - i);
        }
        Check.due("26: counter 6", x.last(1, 6, 0), false);
        Check.due("26: counter -1", x.last(1, -1, 0), false);
        Check.due("26: strength 10", x.last(1, 0, 10), false);
        Check.due("26: strength -1", x.last(1, 0, -1), false);
        Check.due("26: days 4", x.last(2, -77, 4), true);
        Check.due("26: days 0", x.last(2, 0, 0), false);
        Check.due("26: days 5", x.last(2, 0, 5), false);
        Check.due("26: looked at", x.look(50), 4);
        Check.due("26: counters 6", x.last(3, 77, 6), true);
        Check.due("26: counters 0", x.last(3, 0, 0), false);
        Check.due("26: counters 7", x.last(3, 0, 7), false);
        Check.due("26: looked at", x.look(51), 6);
        Check.due("26: counters 1", x.last(3, 0, 1), true);
        Check.due("26: days 1", x.last(2, 0, 1), true);
        Check.due("26: another what", x.last(4, 0, 1), false);
        Check.due("26: another what", x.last(-1, 0, 1), false);
    }

    private static void closedAndPlan() {
        CountedTwice x = new CountedTwice();
        Check.due("27: edges", x.closed(4, 3, true), true);
        Check.due("27: open again", x.closed(4, 3, false), true);
        Check.due("27: slot 5", x.closed(5, 0, true), false);
        Check.due("27: slot -1", x.closed(-1, 0, true), false);
        Check.due("27: day 4", x.closed(0, 4, true), false);
        Check.due("27: day -1", x.closed(0, -1, true), false);
        Check.due("28: edges", x.plan(5, 3, 4), true);
        Check.due("28: none", x.plan(5, 3, -1), true);
        Check.due("28: counter 6", x.plan(6, 0, 0), false);
        Check.due("28: counter -1", x.plan(-1, 0, 0), false);
        Check.due("28: day 4", x.plan(0, 4, 0), false);
        Check.due("28: day -1", x.plan(0, -1, 0), false);
        Check.due("28: slot 5", x.plan(0, 0, 5), false);
        Check.due("28: slot -2", x.plan(0, 0, -2), false);
    }

    private static void planned() {
        CountedTwice x = town(5, 3);
        x.last(1, 0, 2);
        x.last(1, 1, 4);
        Check.due("29: nobody is told to go at first", x.planned(), 0);
        x.plan(0, 0, 0);
        x.plan(1, 0, 0);
        x.plan(0, 1, 1);
        x.plan(1, 1, 1);
        Check.due("29: one counter, one day", x.planned(), 2);
        x.last(3, 0, 2);
        Check.due("29: two counters see the street's five", x.planned(), 5);
        x.last(2, 0, 2);
        Check.due("29: two days", x.planned(), 8);
        Check.due("29: asking changes nothing", x.planned(), 8);
        x.plan(0, 1, -1);
        Check.due("29: he stays", x.planned(), 8);
        x.plan(1, 1, 4);
        Check.due("29: a slot without a street", x.planned(), 5);
        x.plan(1, 1, 0);
        Check.due("29: nothing is left there", x.planned(), 5);
        x.closed(0, 0, true);
        Check.due("29: closed on the first day", x.planned(), 4);
        x.closed(0, 0, false);
        Check.due("29: and open again", x.planned(), 5);
        x.last(0, 0, -1);
        Check.due("29: its street is gone", x.planned(), 0);
        x.last(0, 0, 0);
        Check.entry(x, "x", 0, 0, 0, 0, 0, 0);
        Check.due("29: one house is not missed any more", x.planned(), 4);
        x.view(0);
        Check.due("29: as known then", x.planned(), 5);
    }

    private static void nineAtMost() {
        CountedTwice x = town(12);
        x.last(1, 0, 9);
        x.last(2, 0, 4);
        x.plan(0, 0, 0);
        x.plan(0, 1, 0);
        Check.due("29: 9 at most are counted", x.planned(), 9);
        Check.due("30: 9 at most are counted", x.best(), 9);
    }

    private static void best() {
        CountedTwice x = town(3, 4);
        Check.due("30: without strength", x.best(), 0);
        x.last(1, 0, 3);
        Check.due("30: one counter, one day", x.best(), 3);
        x.last(1, 1, 4);
        x.last(3, 0, 2);
        Check.due("30: both fit", x.best(), 7);
        x.closed(1, 0, true);
        Check.due("30: one street is closed", x.best(), 3);
        x.last(2, 0, 2);
        Check.due("30: the next day it isn't", x.best(), 7);
        x.closed(1, 1, true);
        Check.due("30: it is", x.best(), 3);
        x.last(2, 0, 3);
        Check.due("30: the day behind", x.best(), 7);
        x.last(0, 1, -1);
        Check.due("30: without its street", x.best(), 3);
    }

    private static void theGreaterStreet() {
        for (int first = 0; first < 2; first++) {
            CountedTwice x = first == 0 ? town(5, 3) : town(3, 5);
            x.last(1, 0, 4);
            Check.due("30: he goes where more are", x.best(), 4);
            x.closed(first, 0, true);
            Check.due("30: or where he can", x.best(), 3);
        }
    }

    /** What takes most first ends badly: 3 + 3 into 6, 2 + 2 + 2 into the other 6, not 3 + 2 into one of them. */
    private static void noGreed() {
        CountedTwice x = town(6, 6);
        int[] strengths = {3, 2, 2, 3, 2};
        for (int c = 0; c < 5; c++) {
            x.last(1, c, strengths[c]);
        }
        x.last(3, 0, 5);
        Check.due("30: all twelve", x.best(), 12);
        for (int c = 0; c < 5; c++) {
            x.plan(c, 0, strengths[c] == 3 ? 0 : 1);
        }
        Check.due("29: by that plan", x.planned(), 12);
        x.plan(0, 0, 1);
        x.plan(1, 0, 0);
        Check.due("29: by another one", x.planned(), 5 + 6);
    }

    private static void full() {
        CountedTwice x = town(9, 9, 9, 9, 9);
        x.last(2, 0, 4);
        x.last(3, 0, 6);
        int[] strengths = {2, 2, 2, 2, 2, 2};
        for (int c = 0; c < 6; c++) {
            x.last(1, c, strengths[c]);
        }
        // A street of nine takes five of two, of which one sees one only: 24 go, 5 streets take 4 whole ones each.
        Check.due("30: 20 see two, 4 see one", x.best(), 44);
        for (int c = 0; c < 6; c++) {
            x.last(1, c, 9);
        }
        Check.due("30: all", x.best(), 45);
        x.last(2, 0, 1);
        x.last(3, 0, 4);
        Check.due("30: four of them", x.best(), 36);
        x.last(3, 0, 1);
        x.last(1, 0, 1);
        Check.due("30: one of 45", x.best(), 1);
        x.last(2, 0, 4);
        Check.due("30: four days, one of them each", x.best(), 4);
    }

    public static void main(String[] args) {
        last();
        closedAndPlan();
        planned();
        nineAtMost();
        best();
        theGreaterStreet();
        noGreed();
        full();
        Check.close("LastDaysTest");
    }
}
