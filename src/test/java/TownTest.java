/** Promises 1 to 6: a new object, state, house, gap, set, way. */
public final class TownTest {
    private static void newObject() {
        CountedTwice x = new CountedTwice();
        Check.due("NONE", CountedTwice.NONE, -1);
        Check.due("1: no houses", x.look(0), 0);
        Check.due("1: no entries", x.look(1), 0);
        Check.due("1: time", x.look(3), 0);
        Check.due("1: view", x.look(4), -1);
        Check.due("1: persons", x.look(5), 0);
        Check.due("1: missed", x.look(6), 0);
        Check.due("1: steps", x.look(7), 0);
        Check.due("1: state", x.look(8), 0);
        Check.due("1: days", x.look(50), 1);
        Check.due("1: counters", x.look(51), 1);
        Check.due("1: way", x.way(0, 0, 0), -1);
        Check.due("1: fault", x.fault(0), 0);
        Check.due("1: fault's place", x.fault(1), -1);
        Check.due("1: image", x.image(false), false);
    }

    private static void state() {
        CountedTwice x = new CountedTwice();
        Check.due("2: 0 at first", x.state(7), 0);
        Check.due("2: what it was", x.state(Integer.MIN_VALUE), 7);
        Check.due("2: any int", x.state(-1), Integer.MIN_VALUE);
        Check.due("2: looked at", x.look(8), -1);
    }

    private static void house() {
        CountedTwice x = new CountedTwice();
        Check.due("3: first", x.house(0, 0, 0), 0);
        Check.due("3: edges", x.house(11, 999, 9), 1);
        int[][] wrong = {{-1, 0, 0}, {12, 0, 0}, {0, -1, 0}, {0, 1000, 0}, {0, 0, -1}, {0, 0, 10},
            {Integer.MIN_VALUE, 0, 0}, {0, Integer.MAX_VALUE, 0}};
        for (int[] w : wrong) {
            Check.due("3: can't be", x.house(w[0], w[1], w[2]), -1);
        }
        Check.due("3: none came", x.look(0), 2);
        Check.due("3: one place may have two", x.house(0, 0, 0), 2);
        for (int h = 3; h < 60; h++) {
            Check.due("3: house " + h, x.house(h % 12, h, h % 10), h);
        }
        Check.due("3: the sixty-first", x.house(0, 0, 0), -1);
        Check.due("3: sixty", x.look(0), 60);
    }

    private static void gap() {
        CountedTwice x = new CountedTwice();
        x.house(3, 10, 0);
        x.house(8, 20, 0);
        x.house(11, 1, 0);
        Check.due("4: 100 at first", x.way(0, 1, 0), 130);
        Check.due("4: told", x.gap(3, 8, 999), true);
        Check.due("4: way", x.way(0, 1, 0), 1029);
        Check.due("4: either way", x.way(1, 0, 0), 1029);
        Check.due("4: told the other way", x.gap(8, 3, 0), true);
        Check.due("4: way", x.way(0, 1, 0), 30);
        Check.due("4: others stay", x.way(0, 2, 0), 111);
        Check.due("4: one street", x.gap(3, 3, 5), false);
        Check.due("4: street -1", x.gap(-1, 3, 5), false);
        Check.due("4: street 12", x.gap(3, 12, 5), false);
        Check.due("4: gap -1", x.gap(3, 8, -1), false);
        Check.due("4: gap 1000", x.gap(3, 8, 1000), false);
        Check.due("4: nothing changed", x.way(0, 1, 0), 30);
        Check.due("4: streets without houses", x.gap(0, 1, 5), true);
    }

    private static void setAndWay() {
        CountedTwice x = new CountedTwice();
        x.house(0, 10, 0);
        x.house(0, 60, 0);
        x.house(1, 999, 0);
        Check.due("6: way", x.way(0, 1, 0), 50);
        Check.due("6: way back", x.way(1, 0, 0), 50);
        Check.due("6: minutes: 50 * 2 / 100 + 5", x.way(0, 1, 1), 6);
        Check.due("6: minutes: 1109 * 2 / 100 + 5", x.way(0, 2, 1), 27);
        Check.due("6: itself", x.way(2, 2, 0), 0);
        Check.due("6: itself, minutes", x.way(2, 2, 1), 5);
        Check.due("5: pace", x.set(0, 99), true);
        Check.due("6: minutes: 50 * 99 / 100 goes downwards", x.way(0, 1, 1), 54);
        Check.due("5: sit", x.set(1, 99), true);
        Check.due("6: minutes", x.way(0, 1, 1), 148);
        Check.due("5: pace 0", x.set(0, 0), true);
        Check.due("6: minutes", x.way(0, 2, 1), 99);
        Check.due("5: sit 0", x.set(1, 0), true);
        Check.due("6: minutes", x.way(0, 2, 1), 0);
        Check.due("5: below", x.set(0, -1), false);
        Check.due("5: above", x.set(1, 100), false);
        Check.due("5: another what", x.set(2, 1), false);
        Check.due("5: another what", x.set(-1, 1), false);
        Check.due("5: nothing changed", x.way(0, 2, 1), 0);
        Check.due("6: no such house", x.way(0, 3, 0), -1);
        Check.due("6: no such house", x.way(-1, 0, 0), -1);
        Check.due("6: no such house", x.way(Integer.MIN_VALUE, 0, 1), -1);
        Check.due("6: another what", x.way(0, 1, 2), -1);
        Check.due("6: another what", x.way(0, 1, -1), -1);
    }

    public static void main(String[] args) {
        newObject();
        state();
        house();
        gap();
        setAndWay();
        Check.close("TownTest");
    }
}
