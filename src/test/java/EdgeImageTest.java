/** The boundaries of the image and of what is looked at, and of promises 32 and 33, sentence by sentence. */
public final class EdgeImageTest {
    private static void none() {
        Check.says("THE IMAGE is taken (true), or gone back to (false): true; false if there is none.");
        CountedTwice x = Check.houses(2);
        x.state(5);
        Check.due("there is none", x.image(false), false);
        Check.due("nothing went", x.look(0), 2);
        Check.due("nothing went", x.look(8), 5);
        Check.due("there is none still", x.image(false), false);
        Check.due("taken", x.image(true), true);
        Check.due("there is one", x.image(false), true);
        CountedTwice empty = new CountedTwice();
        Check.due("taken of nothing", empty.image(true), true);
        empty.house(0, 0, 0);
        Check.due("gone back to", empty.image(false), true);
        Check.due("to nothing", empty.look(0), 0);
        Check.due("and on from there", empty.house(1, 0, 0), 0);
    }

    private static void moreThanOnce() {
        Check.says("THE IMAGE: all that is and was told but the TAPE and fault(), as it was when it was taken; gone back to it may be more than once.");
        CountedTwice x = Check.houses(1);
        x.image(true);
        for (int i = 0; i < 5; i++) {
            Check.due("a house", x.house(0, 1, 0), 1);
            Check.due("another", x.house(0, 2, 0), 2);
            Check.due("gone back to", x.image(false), true);
            Check.due("one house", x.look(0), 1);
            Check.due("gone back to at once", x.image(false), true);
            Check.due("one house", x.look(0), 1);
        }
        x.house(0, 1, 0);
        Check.due("taken anew", x.image(true), true);
        x.house(0, 2, 0);
        x.image(false);
        Check.due("the later one", x.look(0), 2);
        Check.due("taken twice", x.image(true), true);
        Check.due("taken twice", x.image(true), true);
        x.house(0, 2, 0);
        x.image(false);
        Check.due("the later one", x.look(0), 2);
    }

    /** Each thing that can be told, changed behind the image, is as it was again; and was changed indeed ahead of that. */
    private static void eachThing() {
        back("the state", x -> x.state(6), x -> x.look(8));
        back("the state by draws", x -> x.lots(1), x -> x.look(8));
        back("houses", x -> x.house(2, 0, 0), x -> x.look(0));
        back("a gap", x -> Check.bit(x.gap(0, 1, 6)), x -> x.way(0, 3, 0));
        back("the pace", x -> Check.bit(x.set(0, 60)), x -> x.way(0, 1, 1));
        back("sit", x -> Check.bit(x.set(1, 60)), x -> x.way(0, 1, 1));
        back("same", x -> Check.text(x, 0, "like when 1=1;"), x -> x.alike(0, 1, 0));
        back("same, for persons", x -> Check.text(x, 0, "like when 1=1;"), x -> x.look(5));
        back("maybe", x -> Check.text(x, 1, "like when 1=1;"), x -> x.alike(0, 1, 1));
        back("maybe, for the ends", x -> Check.text(x, 1, "like when 1=1;"), x -> x.ends(0));
        back("home", x -> Check.text(x, 2, "away when 1=1;"), x -> x.home(0, 0, 0));
        back("home, for ghosts", x -> Check.text(x, 2, "away when 1=1;"), x -> x.counter(0, 2));
        back("entries", x -> Check.entry(x, "eva", 0, 0, 0, 0, 0, 0), x -> x.look(1));
        back("entries known", x -> Check.entry(x, "eva", 0, 0, 0, 0, 0, 0), x -> x.look(2));
        back("time", x -> Check.entry(x, "eva", 0, 0, 0, 0, 0, 0), x -> x.look(3));
        back("voids", x -> Check.bit(x.voids(0)), x -> x.of(0, 7));
        back("time by voids", x -> Check.bit(x.voids(0)), x -> x.look(3));
        back("the view", x -> Check.bit(x.view(1)), x -> x.look(4));
        back("what is known by the view", x -> Check.bit(x.view(1)), x -> x.look(2));
        back("steps", x -> x.step(1, 0, 900), x -> x.look(7));
        back("the first step's minute", x -> stepsAnew(x, 0, 90, 1), x -> x.round(0, 0));
        back("a step's house", x -> stepsAnew(x, 0, 0, 2), x -> x.round(0, 1));
        back("a step's minute", x -> stepsAnew(x, 0, 96, 1), x -> x.round(0, 0));
        back("slots", x -> Check.bit(x.last(0, 0, -1)), x -> x.look(30));
        back("strengths", x -> Check.bit(x.last(1, 5, 9)), x -> x.look(45));
        back("days", x -> Check.bit(x.last(2, 0, 4)), x -> x.look(50));
        back("counters", x -> Check.bit(x.last(3, 0, 6)), x -> x.look(51));
        back("closed", x -> Check.bit(x.closed(0, 0, true)), x -> x.planned());
        back("closed, for the best", x -> Check.bit(x.closed(0, 0, true)), x -> x.best());
        back("opened", x -> Check.bit(x.closed(1, 0, false)), x -> x.best());
        back("the plan", x -> Check.bit(x.plan(0, 0, -1)), x -> x.planned());
        back("a gap of the last streets", x -> Check.bit(x.gap(11, 10, 6)), x -> x.way(6, 7, 0));
        back("the last plan", x -> Check.bit(x.plan(5, 3, 4)), EdgeImageTest::plannedOfAll);
        back("the last slot closed", x -> Check.bit(x.closed(4, 3, true)), EdgeImageTest::bestOfTheLastSlot);
    }

    /** As many steps as were told, some of them others. */
    private static long stepsAnew(CountedTwice x, int house, int minute, int second) {
        x.step(0, house, minute);
        x.step(1, second, 100);
        return x.step(2, 1, 600);
    }

    /** Days, counters and strengths go back with the image, or stay as they are here. */
    private static long plannedOfAll(CountedTwice x) {
        x.last(0, 1, -1);
        x.last(0, 4, 1);
        x.last(1, 5, 1);
        x.last(2, 0, 4);
        x.last(3, 0, 6);
        return x.planned();
    }

    private static long bestOfTheLastSlot(CountedTwice x) {
        x.last(0, 0, -1);
        x.last(0, 1, -1);
        x.last(0, 4, 1);
        x.last(1, 0, 1);
        for (int day = 0; day < 3; day++) {
            x.closed(4, day, true);
        }
        x.last(2, 0, 4);
        return x.best();
    }

    /** Texts that are empty, short and long, each changed to each other one behind the image. */
    private static void eachText() {
        String[] likes = {"", "like when 1=1;", "like when 1=2;", "like when 1=2;like when 1=2 or 3=3 and 2+2=4;"};
        String[] homes = {"", "away when 1=1;", "home when 1=1;away when 1=1;", "away when 1=2;away when 1=2 or 3=3 and 2+2=4;"};
        for (int k = 0; k < 3; k++) {
            String[] texts = k == 2 ? homes : likes;
            for (String then : texts) {
                for (String now : texts) {
                    CountedTwice x = told();
                    Check.text(x, k, then);
                    long was = means(x, k);
                    x.image(true);
                    Check.text(x, k, now);
                    means(x, k);
                    x.image(false);
                    Check.due("text " + k + " '" + then + "' behind '" + now + "'", means(x, k), was);
                }
            }
        }
    }

    private static long means(CountedTwice x, int k) {
        return k == 2 ? x.home(0, 0, 0) + 10 * x.counter(0, 2) : x.alike(0, 1, k) + 10 * x.ends(k == 0 ? 1 : 0);
    }

    /** Numbers that were given to others behind the image are given anew: nothing of the others is left. */
    private static void numbersAnew() {
        CountedTwice x = Check.houses(1);
        Check.text(x, 0, "like when letters=0;");
        Check.text(x, 1, "like when letters=1;");
        Check.entry(x, "ana", 0, 0, 0, 0, 0, 0);
        x.image(true);
        Check.entry(x, "ana", 1, 10, 0, 99, 1439, 119);
        Check.due("same", x.alike(0, 1, 0), 1);
        Check.due("not maybe", x.alike(0, 1, 1), 0);
        x.house(11, 999, 9);
        Check.due("one is missed", x.look(21), 1);
        x.image(false);
        Check.due("no second entry", x.of(1, 0), -1);
        Check.due("no second house", x.way(0, 1, 0), -1);
        Check.due("one person", x.person(0, 0), 1);
        Check.entry(x, "an", 1, 1, 0, 1, 1, 1);
        x.house(0, 7, 1);
        int[] facts = {1, 1, 0, 1, 1, 1, 2, 1, 1, -1, 0, 13, -1};
        for (int what = 0; what < facts.length; what++) {
            Check.due("of(1, " + what + ")", x.of(1, what), facts[what]);
        }
        Check.due("not the same", x.alike(0, 1, 0), 0);
        Check.due("but maybe", x.alike(0, 1, 1), 1);
        Check.due("near", x.way(0, 1, 0), 7);
        Check.due("none is missed there", x.look(21), 0);
        Check.due("two persons", x.look(5), 2);
        Check.due("or one", x.ends(0), 1);
    }

    private interface Call {
        long on(CountedTwice x);
    }

    private static CountedTwice told() {
        CountedTwice x = new CountedTwice();
        x.state(5);
        x.house(0, 0, 0);
        x.house(0, 500, 0);
        x.house(0, 501, 0);
        x.house(1, 0, 0);
        x.house(1, 1, 0);
        x.house(1, 2, 0);
        x.house(10, 0, 0);
        x.house(11, 0, 0);
        Check.entry(x, "ana", 0, 0, 0, 0, 0, 0);
        Check.entry(x, "bob", 1, 0, 1, 0, 0, 0);
        x.step(0, 0, 0);
        x.step(1, 1, 100);
        x.step(2, 1, 600);
        x.last(0, 0, 0);
        x.last(0, 1, 1);
        x.last(1, 0, 2);
        x.closed(1, 0, true);
        x.plan(0, 0, 0);
        return x;
    }

    private static void back(String what, Call change, Call look) {
        CountedTwice x = told();
        long was = look.on(x);
        x.image(true);
        change.on(x);
        Check.isSo(what + " is changed", look.on(x) != was);
        Check.due("gone back to", x.image(false), true);
        Check.due(what, look.on(x), was);
        change.on(x);
        Check.isSo(what + " is changed again", look.on(x) != was);
        x.image(false);
        Check.due(what + " once more", look.on(x), was);
    }

    private static void notTheTape() {
        CountedTwice x = Check.houses(1);
        Check.tape(x, "ana");
        x.image(true);
        Check.due("the tape is as it was", x.end(3), true);
        Check.due("not longer", x.end(4), false);
        x.end(0);
        Check.tape(x, "robert");
        x.image(false);
        Check.due("the tape stays", x.end(7), false);
        Check.due("the tape stays", x.end(6), true);
        Check.due("an entry of it", x.entry(0, 0, 0, 0, 0, 0), 0);
        Check.due("its letters", x.of(0, 6), 6);
        Check.due("the first", x.of(0, 10), 17);
        x.image(false);
        Check.due("the tape stays empty", x.end(1), false);
    }

    private static void notTheFault() {
        CountedTwice x = new CountedTwice();
        Check.faulty(x, 0, "like when 1/0", 2, 12);
        x.image(true);
        Check.due("as it was", x.fault(0), 2);
        Check.faulty(x, 0, "like", 1, 4);
        x.image(false);
        Check.due("the fault stays", x.fault(0), 1);
        Check.due("its place stays", x.fault(1), 4);
        Check.good(x, 0, "", 0);
        x.image(false);
        Check.due("none stays", x.fault(0), 0);
        Check.due("none stays", x.fault(1), -1);
    }

    /** Full of houses and of entries, and empty again. */
    private static void full() {
        CountedTwice x = Check.houses(60);
        x.image(true);
        for (int e = 0; e < 120; e++) {
            Check.entry(x, "ana", 0, 0, 59, 0, 0, 0);
        }
        x.image(false);
        Check.due("no entries", x.look(1), 0);
        Check.due("sixty houses", x.house(0, 0, 0), -1);
        Check.due("an entry again", Check.entry(x, "bob", 1, 10, 0, 99, 1439, 119), 0);
        Check.due("its name", x.of(0, 10), 1);
        x.image(true);
        x.voids(0);
        x.image(false);
        Check.due("of it", x.of(0, 4), 1439);
        Check.due("known", x.of(0, 7), 1);
        Check.due("and void again", x.voids(0), true);
    }

    private static void look() {
        Check.says("What 0 HOUSES, 1 ENTRIES told, 2 those KNOWN at the VIEW, 3 time, 4 VIEW (NONE: now), 5 PERSONS, 6 MISSED HOUSES, 7 STEPS, "
                + "8 STATE, 10 + s MISSED HOUSES of a STREET, 30 + i STREET of SLOT i (NONE), 40 + c STRENGTH, 50 days, 51 COUNTERS. "
                + "NONE for another what.");
        CountedTwice x = new CountedTwice();
        for (int street = 0; street < 12; street++) {
            for (int i = 0; i <= street % 5; i++) {
                x.house(street, i, 0);
            }
        }
        Check.text(x, 0, "like when letters=0;");
        Check.entry(x, "ana", 0, 0, 0, 0, 0, 0);
        Check.entry(x, "ana", 1, 0, 1, 0, 0, 0);
        Check.entry(x, "bob", 1, 0, 1, 0, 0, 0);
        Check.entry(x, "eva", 1, 0, 1, 0, 0, 0);
        x.voids(3);
        x.view(4);
        x.voids(2);
        x.step(0, 0, 0);
        x.state(-99);
        for (int slot = 0; slot < 4; slot++) {
            x.last(0, slot, 11 - slot);
        }
        for (int c = 0; c < 6; c++) {
            x.last(1, c, 9 - c);
        }
        x.last(2, 0, 3);
        x.last(3, 0, 5);
        int[] first = {33, 4, 4, 6, 4, 3, 31, 1, -99, -1, 0, 1, 3, 4, 5, 1, 2, 3, 4, 5, 1, 2, -1};
        for (int what = 0; what < first.length; what++) {
            Check.due("look(" + what + ")", x.look(what), first[what]);
        }
        int[] then = {-1, 11, 10, 9, 8, -1, -1, -1, -1, -1, -1, 9, 8, 7, 6, 5, 4, -1, -1, -1, -1, 3, 5, -1};
        for (int i = 0; i < then.length; i++) {
            Check.due("look(" + (29 + i) + ")", x.look(29 + i), then[i]);
        }
        for (int what = 22; what < 30; what++) {
            Check.due("look(" + what + ")", x.look(what), -1);
        }
        Check.refused("another what", 0, 51, v -> x.look(v), -1);
    }

    public static void main(String[] args) {
        none();
        moreThanOnce();
        eachThing();
        eachText();
        numbersAnew();
        notTheTape();
        notTheFault();
        full();
        look();
        Check.close("EdgeImageTest");
    }
}
