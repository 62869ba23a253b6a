/** Promises 17 to 19: person, table, ends. */
public final class PersonTest {
    private static final int SAME = 0;
    private static final int MAYBE = 1;

    private static void person(CountedTwice x, int p, int entries, int least, int sort, int houses) {
        Check.due("17: entries of " + p, x.person(p, 0), entries);
        Check.due("17: least of " + p, x.person(p, 1), least);
        Check.due("17: what is " + p, x.person(p, 2), sort);
        Check.due("17: houses of " + p, x.person(p, 3), houses);
    }

    private static void askedFirst() {
        CountedTwice x = new CountedTwice();
        x.house(0, 0, 0);
        Check.entry(x, "a", 0, 0, 0, 0, 0, 0);
        Check.due("17: asked first", x.person(0, 0), 1);
        Check.text(x, SAME, "like when 1=1;");
        Check.entry(x, "b", 1, 0, 0, 0, 0, 0);
        Check.due("17: and behind an entry", x.person(0, 0), 2);
        x.voids(0);
        Check.due("18: and behind a void", x.table(0, 1), 1);
        x.view(1);
        Check.due("14: and behind a view", x.of(0, 8), 0);
        x.view(2);
        Check.due("19: and behind a view", x.ends(1), 1);
    }

    private static CountedTwice chain() {
        CountedTwice x = new CountedTwice();
        x.house(0, 0, 0);
        x.house(0, 5, 0);
        x.house(1, 0, 0);
        Check.text(x, SAME, "like when letters<2;");
        Check.entry(x, "aaaa", 0, 0, 0, 0, 0, 0);
        Check.entry(x, "bbbb", 1, 0, 2, 0, 0, 0);
        Check.entry(x, "aacc", 1, 0, 1, 0, 0, 0);
        Check.entry(x, "cccc", 0, 0, 0, 0, 0, 0);
        Check.entry(x, "aaac", 0, 0, 0, 0, 0, 0);
        Check.entry(x, "bbbb", 1, 0, 2, 0, 0, 0);
        return x;
    }

    private static void persons() {
        CountedTwice x = chain();
        Check.due("17: persons", x.look(5), 3);
        person(x, 0, 3, 0, 2, 2);
        person(x, 1, 2, 1, 1, 1);
        person(x, 2, 1, 3, 0, 1);
        Check.due("17: none such", x.person(3, 0), -1);
        Check.due("17: none such", x.person(-1, 0), -1);
        Check.due("17: another what", x.person(0, 4), -1);
        Check.due("17: another what", x.person(0, -1), -1);
        Check.due("17: of entries", x.of(4, 8), 0);
        x.voids(4);
        Check.due("17: without the one between", x.look(5), 4);
        person(x, 0, 1, 0, 0, 1);
        person(x, 2, 1, 2, 1, 1);
        x.view(6);
        Check.due("17: as known ahead of the void", x.look(5), 3);
        Check.entry(x, "accc", 0, 0, 0, 0, 0, 0);
        Check.due("17: a told view stays", x.look(5), 3);
        x.view(-1);
        Check.due("17: the new one joins two", x.look(5), 3);
        person(x, 2, 3, 2, 2, 2);
        Check.text(x, SAME, "like when 1=1;");
        Check.due("17: all alike", x.look(5), 1);
        Check.text(x, SAME, "");
        Check.due("17: nobody alike", x.look(5), 6);
    }

    private static void gapsMatter() {
        CountedTwice x = new CountedTwice();
        x.house(0, 0, 0);
        x.house(1, 0, 0);
        Check.text(x, SAME, "like when near<50;");
        Check.text(x, MAYBE, "like when near<100;");
        Check.entry(x, "a", 0, 0, 0, 0, 0, 0);
        Check.entry(x, "b", 1, 0, 1, 0, 0, 0);
        Check.due("17: far", x.look(5), 2);
        Check.due("19: far", x.ends(0), 2);
        x.gap(0, 1, 99);
        Check.due("19: nearer", x.ends(0), 1);
        x.gap(0, 1, 49);
        Check.due("17: near", x.look(5), 1);
        x.gap(0, 1, 50);
        Check.due("17: not so near", x.look(5), 2);
    }

    private static void table() {
        CountedTwice x = chain();
        int[] all = {1, 1, 1, 1, 1};
        int[] street0 = {1, 0, 1, 0, 1};
        int[] street1 = {0, 1, 0, -1, 0};
        for (int what = 0; what < 5; what++) {
            Check.due("18: all, " + what, x.table(-1, what), all[what]);
            Check.due("18: street 0, " + what, x.table(0, what), street0[what]);
            Check.due("18: street 1, " + what, x.table(1, what), street1[what]);
            Check.due("18: street 11, " + what, x.table(11, what), what == 3 ? -1 : 0);
        }
        Check.due("18: no street", x.table(12, 0), -1);
        Check.due("18: no street", x.table(-2, 0), -1);
        Check.due("18: another what", x.table(0, 5), -1);
        Check.due("18: another what", x.table(0, -1), -1);
    }

    private static void missed() {
        CountedTwice x = new CountedTwice();
        x.house(0, 0, 0);
        x.house(2, 0, 0);
        Check.text(x, SAME, "like when letters=0;");
        String[] open = {"a", "b", "c", "d", "e"};
        String[] secret = {"a", "b", "g", "h", "i"};
        for (int i = 0; i < 5; i++) {
            Check.entry(x, open[i], 0, 0, 0, 0, 0, 0);
            Check.entry(x, secret[i], 1, 0, 1, 0, 0, 0);
        }
        Check.due("18: 3 * 3 / 2 goes downwards", x.table(-1, 3), 4);
        Check.due("18: a person's street is that of its least entry", x.table(0, 2), 2);
        Check.due("18: street 2 has the secret ones", x.table(2, 1), 3);
        Check.due("18: doubles", x.table(-1, 4), 2);
        Check.due("18: doubles of street 0", x.table(0, 4), 2);
        Check.due("18: doubles of street 2", x.table(2, 4), 0);
        x.voids(0);
        Check.due("18: then one is secret", x.table(2, 1), 4);
        x.view(4);
        Check.due("18: at 4 none is missed", x.table(-1, 3), 0);
    }

    private static void ends() {
        CountedTwice x = new CountedTwice();
        x.house(0, 0, 0);
        Check.due("19: nobody", x.ends(0), 0);
        Check.due("19: nobody", x.ends(1), 0);
        // By ages: 10 may be with 11 and 12, 13 with 12 and 14, 16 with 14 only, 30 with nobody.
        int[][] people = {{0, 10}, {0, 13}, {0, 16}, {0, 30}, {1, 12}, {1, 14}, {1, 11}};
        for (int[] p : people) {
            Check.entry(x, "x", p[0], 0, 0, 0, 0, p[1]);
        }
        Check.due("19: without maybe", x.ends(0), 7);
        Check.text(x, MAYBE, "like when ages<3;");
        Check.due("19: others must change theirs", x.ends(0), 4);
        Check.due("19: the most", x.ends(1), 7);
        x.voids(6);
        Check.due("19: one less, and he takes 12", x.ends(0), 4);
        x.voids(4);
        Check.due("19: two for one", x.ends(0), 4);
        Check.due("19: the most", x.ends(1), 5);
        Check.text(x, MAYBE, "like when 1=1;");
        Check.due("19: the open ones are more", x.ends(0), 4);
        x.view(7);
        Check.due("19: as known then", x.ends(0), 4);
        Check.due("19: as known then", x.ends(1), 7);
        Check.text(x, SAME, "like when ages=1;");
        Check.due("19: 10 and 11 and 12 and 13 and 14 are one, who is both", x.ends(1), 3);
        Check.due("19: both can't be with others", x.ends(0), 3);
        Check.text(x, SAME, "");
        Check.text(x, MAYBE, "like when ages=2;");
        Check.due("19: three couples", x.ends(0), 4);
        Check.text(x, MAYBE, "");
        Check.due("19: none any more", x.ends(0), 7);
        Check.due("19: another what", x.ends(2), -1);
        Check.due("19: another what", x.ends(-1), -1);
    }

    private static void full() {
        CountedTwice x = new CountedTwice();
        x.house(0, 0, 0);
        for (int i = 0; i < 60; i++) {
            Check.entry(x, "x", 0, 0, 0, 0, 0, i);
        }
        for (int i = 0; i < 60; i++) {
            Check.entry(x, "x", 1, 0, 0, 0, 0, i + 1);
        }
        // Each may be with the one above and the one below: taken from below all change.
        Check.text(x, MAYBE, "like when ages=1 or ages=0;");
        Check.due("19: sixty couples", x.ends(0), 60);
        Check.text(x, SAME, "like when ages=1;");
        Check.due("17: a chain of all", x.look(5), 1);
        person(x, 0, 120, 0, 2, 1);
    }

    /** The secret ones have ages 2, 4, .. 118; the open ones 3, 5, .. 117, and at last 1, for whom all must change. */
    private static void allChange(boolean openFirst) {
        CountedTwice x = new CountedTwice();
        x.house(0, 0, 0);
        for (int round = 0; round < 2; round++) {
            boolean open = openFirst == (round == 0);
            for (int age = open ? 3 : 2; age <= 118; age += 2) {
                Check.entry(x, "x", open ? 0 : 1, 0, 0, 0, 0, age);
            }
            if (open) {
                Check.entry(x, "x", 0, 0, 0, 0, 0, 1);
            }
        }
        Check.text(x, MAYBE, "like when ages=1;");
        Check.due("19: all change", x.ends(0), 59);
        Check.due("19: the most", x.ends(1), 118);
        Check.text(x, MAYBE, "like when ages=1 and not ages=1;");
        Check.due("19: none", x.ends(0), 118);
        Check.text(x, SAME, "like when ages=117;");
        Check.due("15: the last pair, and then the first by the other text", x.look(5), 117);
        Check.text(x, SAME, "like when ages=2;");
        Check.text(x, MAYBE, "like when ages>2;");
        Check.due("17: the even ages and the odd ones", x.look(5), 2);
        Check.due("19: which may be one", x.ends(0), 1);
    }

    /** 10 makes 12 change, then 51 makes 10 change, who makes 8 change. */
    private static void changeTwice() {
        CountedTwice x = new CountedTwice();
        x.house(0, 0, 0);
        int[] open = {8, 12, 10, 51};
        int[] secret = {11, 9, 13, 7};
        for (int age : open) {
            Check.entry(x, "x", 0, 0, 0, 0, 0, age);
        }
        for (int age : secret) {
            Check.entry(x, "x", 1, 0, 0, 0, 0, age);
        }
        Check.text(x, MAYBE, "like when ages=1 or ages=40;");
        Check.due("19: four couples", x.ends(0), 4);
    }

    /** Two texts remembered side by side: no pair of one is taken for a pair of the other. */
    private static void pairsOfBothTexts() {
        CountedTwice x = new CountedTwice();
        x.house(0, 0, 0);
        for (int e = 0; e < 120; e++) {
            Check.entry(x, "x", 0, 0, 0, 0, 0, e);
        }
        Check.text(x, SAME, "like when ages<500;");
        Check.text(x, MAYBE, "like when ages>500;");
        for (int e = 0; e < 40; e++) {
            Check.due("15: same", x.alike(119, 118 - e, SAME), 1);
            Check.due("15: not maybe", x.alike(e + 1, e / 2, MAYBE), 0);
        }
    }

    public static void main(String[] args) {
        askedFirst();
        persons();
        gapsMatter();
        table();
        missed();
        ends();
        full();
        allChange(true);
        allChange(false);
        changeTwice();
        pairsOfBothTexts();
        Check.close("PersonTest");
    }
}
