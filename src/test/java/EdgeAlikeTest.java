/** The boundaries of what the texts mean, of homes and of persons, and of promises 15 to 17, sentence by sentence. */
public final class EdgeAlikeTest {
    private static final int SAME = 0;
    private static final int MAYBE = 1;

    /** Two entries: names, counts, counters, houses, days and ages. */
    private static CountedTwice pair(String a, int[] f, String b, int[] g) {
        CountedTwice x = new CountedTwice();
        x.house(4, 0, 0);
        x.house(4, 999, 0);
        x.house(4, 999, 0);
        x.house(5, 0, 0);
        x.house(5, 999, 0);
        x.gap(4, 5, 999);
        Check.entry(x, a, f[0], f[1], f[2], f[3], 0, f[4]);
        Check.entry(x, b, g[0], g[1], g[2], g[3], 0, g[4]);
        return x;
    }

    private static final int[] PLAIN = {0, 0, 0, 0, 0};

    /** A value is just so much: not one less, not one more, by both texts and both ways. */
    private static void is(CountedTwice x, String value, int due) {
        String[] conditions = {value + "=" + due, value + "<" + (due + 1), value + "<" + due, value + ">" + due,
            value + "+1>" + due, value + "=" + (due + 1)};
        int[] so = {1, 1, 0, 0, 1, 0};
        for (int i = 0; i < conditions.length; i++) {
            for (int k = SAME; k <= MAYBE; k++) {
                Check.good(x, k, "like when " + conditions[i] + ";", 1);
                Check.due(conditions[i] + " by " + k, x.alike(0, 1, k), so[i]);
                Check.due("either way: " + conditions[i] + " by " + k, x.alike(1, 0, k), so[i]);
            }
        }
    }

    private static void letters() {
        Check.says("letters: the fewest letters that are put in, taken out or exchanged for others, one by one, "
                + "by which one NAME becomes the other;");
        Object[][] names = {{"a", "a", 0}, {"z", "z", 0}, {"abcdefgh", "abcdefgh", 0}, {"a", "b", 1}, {"a", "z", 1}, {"a", "ab", 1},
            {"b", "ab", 1}, {"ac", "abc", 1}, {"abc", "axc", 1}, {"abc", "abx", 1}, {"abc", "xbc", 1}, {"abcdefgh", "abcdefg", 1},
            {"abcdefgh", "bcdefgh", 1}, {"abcdefgh", "abcdefgx", 1}, {"ab", "ba", 2}, {"abc", "cab", 2}, {"aab", "baa", 2},
            {"abab", "baba", 2}, {"a", "aaaaaaaa", 7}, {"b", "aaaaaaaa", 8}, {"aaaaaaaa", "bbbbbbbb", 8}, {"abcdefgh", "ijklmnop", 8},
            {"abcdefgh", "efghabcd", 8}, {"abcdefgh", "badcfehg", 5}, {"aaaabbbb", "bbbbaaaa", 8}, {"abcdef", "fabcde", 2}};
        for (Object[] n : names) {
            CountedTwice x = pair((String) n[0], PLAIN, (String) n[1], PLAIN);
            Check.due("letters of " + n[0] + ", " + n[1], x.alike(0, 1, 2), (Integer) n[2]);
            Check.due("and back", x.alike(1, 0, 2), (Integer) n[2]);
            is(x, "letters", (Integer) n[2]);
        }
    }

    private static void first() {
        Check.says("first (1, if the first letters are one, else 0);");
        is(pair("a", PLAIN, "a", PLAIN), "first", 1);
        is(pair("a", PLAIN, "abcdefgh", PLAIN), "first", 1);
        is(pair("zab", PLAIN, "zcd", PLAIN), "first", 1);
        is(pair("a", PLAIN, "b", PLAIN), "first", 0);
        is(pair("ab", PLAIN, "ba", PLAIN), "first", 0);
        is(pair("abcdefgh", PLAIN, "bbcdefgh", PLAIN), "first", 0);
    }

    private static int[] aged(int age) {
        return new int[] {0, 0, 0, 0, age};
    }

    private static int[] onDay(int day) {
        return new int[] {0, 0, 0, day, 0};
    }

    private static int[] in(int house) {
        return new int[] {0, 0, house, 0, 0};
    }

    private static int[] by(int count, int counter) {
        return new int[] {count, counter, 0, 0, 0};
    }

    private static void agesAndDays() {
        Check.says("ages, days: how far AGES, DAYS are apart;");
        int[][] pairs = {{0, 0}, {0, 1}, {1, 0}, {0, 119}, {119, 0}, {119, 119}, {118, 119}, {30, 39}};
        for (int[] p : pairs) {
            is(pair("a", aged(p[0]), "a", aged(p[1])), "ages", Math.abs(p[0] - p[1]));
            is(pair("a", aged(p[0]), "a", aged(p[1])), "days", 0);
        }
        int[][] days = {{0, 0}, {0, 1}, {1, 0}, {0, 99}, {99, 0}, {99, 99}, {98, 99}};
        for (int[] p : days) {
            is(pair("a", onDay(p[0]), "a", onDay(p[1])), "days", Math.abs(p[0] - p[1]));
            is(pair("a", onDay(p[0]), "a", onDay(p[1])), "ages", 0);
        }
    }

    private static void nearAndHouse() {
        Check.says("near: WAY of their HOUSES;");
        int[][] pairs = {{0, 0, 0}, {0, 1, 999}, {1, 2, 0}, {0, 3, 999}, {1, 4, 2997}, {4, 1, 2997}, {4, 4, 0}};
        for (int[] p : pairs) {
            CountedTwice x = pair("a", in(p[0]), "a", in(p[1]));
            Check.due("near", x.alike(0, 1, 3), p[2]);
            Check.due("near, and back", x.alike(1, 0, 3), p[2]);
            is(x, "near", p[2]);
        }
        Check.says("house (1, if it is one HOUSE, else 0).");
        is(pair("a", in(0), "a", in(0)), "house", 1);
        is(pair("a", in(4), "a", in(4)), "house", 1);
        is(pair("a", in(1), "a", in(2)), "house", 0);
        is(pair("a", in(0), "a", in(1)), "house", 0);
        CountedTwice x = pair("a", in(0), "a", in(3));
        x.gap(5, 4, 0);
        Check.due("near by a gap told later", x.alike(0, 1, 3), 0);
        is(x, "near", 0);
        x.gap(4, 5, 1);
        Check.due("and by a later one", x.alike(0, 1, 3), 1);
        Check.text(x, SAME, "like when near=1;");
        Check.text(x, MAYBE, "like when near=2;");
        Check.due("alike by that gap", x.alike(0, 1, SAME), 1);
        Check.due("one person by that gap", x.look(5), 1);
        Check.due("not by the other text", x.alike(0, 1, MAYBE), 0);
        x.gap(5, 4, 2);
        Check.due("not alike by the next one", x.alike(0, 1, SAME), 0);
        Check.due("two persons by the next one", x.look(5), 2);
        Check.due("but by the other text", x.alike(0, 1, MAYBE), 1);
    }

    private static void book() {
        Check.says("book (1, if COUNT and COUNTER are the same ones, else 0);");
        is(pair("a", by(0, 0), "a", by(0, 0)), "book", 1);
        is(pair("a", by(1, 10), "a", by(1, 10)), "book", 1);
        is(pair("a", by(0, 0), "a", by(1, 0)), "book", 0);
        is(pair("a", by(0, 0), "a", by(0, 1)), "book", 0);
        is(pair("a", by(0, 1), "a", by(1, 0)), "book", 0);
        is(pair("a", by(0, 10), "a", by(1, 10)), "book", 0);
        is(pair("a", by(1, 9), "a", by(1, 10)), "book", 0);
    }

    /** 2147483647 as sums of what a text can have: one more is the least int. */
    private static final String MOST = "9999*9999*21+9999*4790+8416";
    private static final String LEAST = "0-9999*9999*21-9999*4790-8417";

    private static void so(String condition, int due) {
        CountedTwice x = pair("a", PLAIN, "a", PLAIN);
        Check.good(x, SAME, "like when " + condition + ";", 1);
        Check.due(condition, x.alike(0, 1, SAME), due);
        Check.good(x, 2, "away when " + condition + ";", 1);
        Check.due("at home by " + condition, x.home(0, 0, 0), 1 - due);
    }

    private static void ints() {
        Check.says("Ints, which wrap; / goes towards 0.");
        Check.isSo("the sums are as told", 9999 * 9999 * 21 + 9999 * 4790 + 8416 == Integer.MAX_VALUE);
        so(MOST + ">0", 1);
        so(MOST + "+1<0", 1);
        so(MOST + "+1=" + LEAST, 1);
        so(LEAST + "<0", 1);
        so(LEAST + "-1>0", 1);
        so(LEAST + "-1=" + MOST, 1);
        so("4096*4096*127>0", 1);
        so("4096*4096*128<0", 1);
        so("4096*4096*128=" + LEAST, 1);
        so("4096*4096*256=0", 1);
        so("4096*4096*257=4096*4096", 1);
        so("4096*4096*128/1=" + LEAST, 1);
        so("4096*4096*128/2=0-4096*4096*64", 1);
        so("4096*4096*128/9999*9999<4096*4096*128", 0);
        so("4096*4096*128/9999=0-9999*21-4790", 1);
        so("4096*4096*255/4096=0-4096", 1);
        so("4096*4096*255/9999=0-1677", 1);
        so("4096*4096*1/9999=1677", 1);
        so("4096*4096*255/9999/1677=0-1", 1);
        so("4096*4096*255/9999/1678=0", 1);
        so("9999/9999=1", 1);
        so("9998/9999=0", 1);
        so("0/9999=0", 1);
        so("9999*9999/9999=9999", 1);
    }

    private static void ranks() {
        so("1+2*3=7", 1);
        so("8-4-2=2", 1);
        so("8/4/2=1", 1);
        so("8/4*2=4", 1);
        so("9*2/4=4", 1);
        so("9/4*2=4", 1);
        so("2-1+1=2", 1);
        so("1=1 or 1=2 and 1=2", 1);
        so("1=2 and 1=2 or 1=1", 1);
        so("(1=1 or 1=2)and 1=2", 0);
        so("not 1=2 and 1=2", 0);
        so("not(1=2 and 1=2)", 1);
        so("not 1=1 or 1=1", 1);
        so("not(1=1 or 1=1)", 0);
        so("not not 1=1", 1);
        so("not 1<2", 0);
        so("not 2<1", 1);
        so("not 2>1", 0);
        so("not 1>2", 1);
        so("1<2 and 1=1", 1);
        so("2>1 and 1=1", 1);
        so("1<2 and 2>1", 1);
        so("1=2 or 1<2", 1);
        so("1<2 or 1=2", 1);
        so("1<2 and 2<1", 0);
        so("1=2 or 2<1", 0);
        so("1<2", 1);
        so("2<2", 0);
        so("3<2", 0);
        so("1=2", 0);
        so("2=2", 1);
        so("3>2", 1);
        so("2>2", 0);
        so("1>2", 0);
    }

    /** The words wait on each other at most: each bracket that is open behind an "or" and an "and". */
    private static void deepest() {
        String deep = Check.repeat("0=1 or 1=1 and(", 8) + "0=1 or 1=1 and 1+2*3=7-0*1" + Check.repeat(")", 8);
        so(deep, 1);
        so(deep.replace("=7-", "=6-"), 0);
        so(Check.repeat("not(", 4) + "1=1 and 2+3*4=14" + Check.repeat(")", 4), 1);
    }

    private static void someLine() {
        Check.says("Two ENTRIES are alike by a LIKENESS, if B of some line is so:");
        for (int lines : new int[] {1, 2, 16}) {
            for (int good = -1; good < lines; good++) {
                CountedTwice x = pair("a", PLAIN, "a", PLAIN);
                StringBuilder text = new StringBuilder();
                for (int i = 0; i < lines; i++) {
                    text.append("like when ").append(i == good ? "1=1;" : "1=2;");
                }
                for (int k = SAME; k <= MAYBE; k++) {
                    Check.good(x, k, text.toString(), lines);
                    Check.due("line " + good + " of " + lines + " is so", x.alike(0, 1, k), good < 0 ? 0 : 1);
                }
            }
        }
        CountedTwice x = pair("a", PLAIN, "a", PLAIN);
        Check.due("without a line", x.alike(0, 1, SAME), 0);
        Check.due("without a line", x.alike(0, 1, MAYBE), 0);
    }

    private static void alike() {
        Check.says("For two ENTRIES (KNOWN or not) what 0, 1 whether they are alike by that LIKENESS (1, 0), 2 letters, 3 near. "
                + "NONE if one can't be (the same), or another what.");
        CountedTwice x = pair("ab", in(1), "a", in(0));
        Check.text(x, SAME, "like when letters=1;");
        for (int what = 0; what < 4; what++) {
            int asked = what;
            Check.due("the same, what " + what, x.alike(0, 0, what), -1);
            Check.due("the same, what " + what, x.alike(1, 1, what), -1);
            Check.refused("a, what " + what, 0, 1, v -> x.alike(v, 0, asked), -1);
            Check.refused("b, what " + what, 0, 1, v -> x.alike(1, v, asked), -1);
            Check.due("two that can't be", x.alike(2, 2, what), -1);
        }
        Check.refused("what", 0, 3, v -> x.alike(0, 1, v), -1);
        int[] due = {1, 0, 1, 999};
        int[][] views = {{-1, 2}, {0, 0}, {1, 1}, {2, 2}};
        for (int[] view : views) {
            x.view(view[0]);
            Check.due("known", x.look(2), view[1]);
            for (int what = 0; what < 4; what++) {
                Check.due("what " + what + " at " + view[0], x.alike(0, 1, what), due[what]);
            }
        }
        x.view(-1);
        x.voids(0);
        x.voids(1);
        for (int what = 0; what < 4; what++) {
            Check.due("both void, what " + what, x.alike(1, 0, what), due[what]);
        }
    }

    private static void home() {
        Check.says("Somebody is at HOME in a HOUSE on a DAY in a MINUTE by the first line of HOME whose B is so (home: yes; away: no); "
                + "yes without one: hour (MINUTE by 60), day, street, number, kind.");
        CountedTwice x = new CountedTwice();
        x.house(0, 0, 0);
        x.house(11, 999, 9);
        Check.due("without a line", x.home(0, 0, 0), 1);
        int[][] hours = {{0, 0}, {59, 0}, {60, 1}, {119, 1}, {120, 2}, {1379, 22}, {1380, 23}, {1439, 23}};
        for (int[] h : hours) {
            value(x, "hour", 0, 0, h[0], h[1]);
        }
        for (int day : new int[] {0, 1, 98, 99}) {
            value(x, "day", 0, day, 0, day);
        }
        value(x, "street", 0, 0, 0, 0);
        value(x, "street", 1, 0, 0, 11);
        value(x, "number", 0, 0, 0, 0);
        value(x, "number", 1, 0, 0, 999);
        CountedTwice y = new CountedTwice();
        y.house(0, 0, 0);
        y.house(11, 999, 9);
        value(y, "kind", 0, 0, 0, 0);
        value(y, "kind", 1, 0, 0, 9);
    }

    private static void value(CountedTwice x, String value, int house, int day, int minute, int due) {
        Check.text(x, 2, "away when " + value + "=" + due + ";");
        Check.due(value + " is " + due, x.home(house, day, minute), 0);
        Check.text(x, 2, "away when not " + value + "=" + due + ";");
        Check.due(value + " is nothing else", x.home(house, day, minute), 1);
    }

    private static void firstLine() {
        String[] sorts = {"home", "away"};
        for (int lines = 1; lines <= 16; lines += 5) {
            for (int at = 0; at <= lines; at++) {
                for (int sort = 0; sort < 2; sort++) {
                    StringBuilder text = new StringBuilder();
                    for (int i = 0; i < lines; i++) {
                        // Ahead of the line that is so and behind it stand those that say the contrary.
                        text.append(sorts[i == at ? sort : 1 - sort]).append(i < at ? " when 1=2;" : " when 1=1;");
                    }
                    CountedTwice x = Check.houses(1);
                    Check.good(x, 2, text.toString(), lines);
                    Check.due("line " + at + " of " + lines, x.home(0, 0, 0), at == lines ? 1 : 1 - sort);
                }
            }
        }
    }

    private static void noSuchHome() {
        Check.says("Whether somebody is at HOME: 1 or 0; NONE if one can't be.");
        CountedTwice x = Check.houses(2);
        Check.due("the least", x.home(0, 0, 0), 1);
        Check.due("the greatest", x.home(1, 99, 1439), 1);
        Check.refused("house", 0, 1, v -> x.home(v, 0, 0), -1);
        Check.refused("day", 0, 99, v -> x.home(0, v, 0), -1);
        Check.refused("minute", 0, 1439, v -> x.home(0, 0, v), -1);
        Check.text(x, 2, "away when 1=1;");
        Check.due("the least", x.home(0, 0, 0), 0);
        Check.due("the greatest", x.home(1, 99, 1439), 0);
        Check.refused("house, all away", 0, 1, v -> x.home(v, 0, 0), -1);
        Check.refused("day, all away", 0, 99, v -> x.home(0, v, 0), -1);
        Check.refused("minute, all away", 0, 1439, v -> x.home(0, 0, v), -1);
    }

    private static CountedTwice people(int[][] countsHousesAges) {
        CountedTwice x = new CountedTwice();
        x.house(0, 5, 0);
        x.house(0, 5, 0);
        x.house(1, 0, 0);
        for (int[] f : countsHousesAges) {
            Check.entry(x, "x", f[0], 0, f[1], 0, 0, f[2]);
        }
        return x;
    }

    private static void classes() {
        Check.says("PERSONS are classes of ENTRIES: two are of one, if they are SAME, or by others between; numbered by their least ENTRY "
                + "(0 the one with the least).");
        CountedTwice x = people(new int[][] {{0, 0, 50}, {0, 0, 10}, {0, 0, 13}, {0, 0, 51}, {0, 0, 11}, {0, 0, 90}, {0, 0, 12}});
        Check.text(x, MAYBE, "like when 1=1;");
        Check.due("maybe makes no person", x.look(5), 7);
        Check.text(x, SAME, "like when ages=1;");
        int[] persons = {0, 1, 1, 0, 1, 2, 1};
        Check.due("persons", x.look(5), 3);
        for (int e = 0; e < 7; e++) {
            Check.due("person of " + e, x.of(e, 8), persons[e]);
        }
        for (int p = 0; p < 3; p++) {
            Check.due("entries of " + p, x.person(p, 0), new int[] {2, 4, 1}[p]);
            Check.due("least of " + p, x.person(p, 1), new int[] {0, 1, 5}[p]);
        }
        x.voids(4);
        Check.due("without one between: 10 alone, 12 and 13", x.look(5), 4);
        Check.due("12", x.of(6, 8), 2);
        Check.due("13", x.of(2, 8), 2);
        Check.due("10", x.of(1, 8), 1);
        Check.due("90", x.of(5, 8), 3);
        Check.due("void", x.of(4, 8), -1);
        x.view(7);
        Check.due("ahead of the void", x.of(2, 8), 1);
        x.view(6);
        Check.due("ahead of the last: 10 and 11, 13 alone", x.look(5), 4);
        Check.due("13 then", x.of(2, 8), 2);
        Check.due("90 then", x.of(5, 8), 3);
    }

    /** 120 entries as one chain, whichever way it goes, and as 120 persons. */
    private static void greatest() {
        for (int way = 0; way < 3; way++) {
            CountedTwice x = Check.houses(1);
            for (int e = 0; e < 120; e++) {
                int age = way == 0 ? e : way == 1 ? 119 - e : e % 2 == 0 ? e / 2 : 119 - e / 2;
                Check.entry(x, "x", e % 2, 0, 0, 0, 0, age);
            }
            Check.due("120 persons", x.look(5), 120);
            Check.due("the last one", x.person(119, 1), 119);
            Check.due("none behind it", x.person(120, 0), -1);
            Check.text(x, SAME, "like when ages=1;");
            Check.due("one person", x.look(5), 1);
            Check.due("of 120 entries", x.person(0, 0), 120);
            Check.due("none behind it", x.person(1, 0), -1);
            Check.due("both", x.person(0, 2), 2);
        }
    }

    private static void sorts() {
        Check.says("A PERSON is OPEN (only in COUNT 0), SECRET (only in COUNT 1), or BOTH.");
        int[][][] rows = {{{0, 0, 1}}, {{1, 0, 1}}, {{0, 0, 1}, {0, 1, 1}}, {{1, 0, 1}, {1, 1, 1}}, {{0, 0, 1}, {1, 0, 1}},
            {{1, 0, 1}, {0, 0, 1}}, {{0, 0, 1}, {0, 0, 1}, {1, 0, 1}}, {{1, 0, 1}, {1, 0, 1}, {0, 0, 1}}};
        int[] sorts = {0, 1, 0, 1, 2, 2, 2, 2};
        for (int i = 0; i < rows.length; i++) {
            CountedTwice x = people(rows[i]);
            Check.text(x, SAME, "like when ages=0;");
            Check.due("row " + i, x.person(0, 2), sorts[i]);
            for (int what = 0; what < 3; what++) {
                Check.due("table of row " + i, x.table(-1, what), what == sorts[i] ? 1 : 0);
            }
        }
        CountedTwice x = people(rows[4]);
        Check.text(x, SAME, "like when ages=0;");
        x.voids(0);
        Check.due("secret, behind the void", x.person(0, 2), 1);
        x.view(1);
        Check.due("open, ahead of the secret one", x.person(0, 2), 0);
        x.view(2);
        Check.due("both, between", x.person(0, 2), 2);
    }

    private static void doubles() {
        Check.says("DOUBLE is one with ENTRIES in two HOUSES or more.");
        int[][][] rows = {{{0, 0, 1}}, {{0, 0, 1}, {0, 0, 1}}, {{0, 0, 1}, {0, 1, 1}}, {{0, 0, 1}, {1, 0, 1}}, {{0, 2, 1}, {1, 0, 1}},
            {{0, 0, 1}, {0, 1, 1}, {0, 2, 1}}, {{0, 0, 1}, {0, 1, 1}, {0, 0, 1}, {0, 1, 1}}, {{0, 0, 1}, {0, 1, 2}}};
        int[] houses = {1, 1, 2, 1, 2, 3, 2, 1};
        for (int i = 0; i < rows.length; i++) {
            CountedTwice x = people(rows[i]);
            Check.text(x, SAME, "like when ages=0;");
            Check.due("houses of row " + i, x.person(0, 3), houses[i]);
            Check.due("doubles of row " + i, x.table(-1, 4), houses[i] >= 2 ? 1 : 0);
        }
        CountedTwice x = Check.houses(60);
        for (int h = 0; h < 60; h++) {
            Check.entry(x, "x", 0, 0, 59 - h, 0, 0, 0);
        }
        Check.text(x, SAME, "like when 1=1;");
        Check.due("sixty houses", x.person(0, 3), 60);
        Check.due("one double", x.table(-1, 4), 1);
    }

    private static void person() {
        Check.says("VIEWS of a PERSON: how many ENTRIES, its least ENTRY, what it is (0 OPEN, 1 SECRET, 2 BOTH), how many HOUSES.");
        Check.says("VIEWS of PERSON p what 0 ENTRIES, 1 the least, 2 what it is, 3 HOUSES. NONE if there is none such, or another what.");
        CountedTwice none = Check.houses(1);
        for (int what = 0; what < 4; what++) {
            Check.due("nobody", none.person(0, what), -1);
        }
        CountedTwice x = people(new int[][] {{1, 0, 9}, {0, 0, 1}, {1, 1, 1}, {0, 2, 5}});
        Check.text(x, SAME, "like when ages=0;");
        int[][] views = {{1, 0, 1, 1}, {2, 1, 2, 2}, {1, 3, 0, 1}};
        for (int p = 0; p < 3; p++) {
            for (int what = 0; what < 4; what++) {
                Check.due("person(" + p + ", " + what + ")", x.person(p, what), views[p][what]);
            }
            int asked = p;
            Check.refused("another what of " + p, 0, 3, v -> x.person(asked, v), -1);
        }
        for (int what = 0; what < 4; what++) {
            int asked = what;
            Check.refused("none such, what " + what, 0, 2, v -> x.person(v, asked), -1);
        }
        x.view(2);
        Check.due("not yet", x.person(2, 0), -1);
        Check.due("the second then", x.person(1, 0), 1);
    }

    public static void main(String[] args) {
        letters();
        first();
        agesAndDays();
        nearAndHouse();
        book();
        ints();
        ranks();
        deepest();
        someLine();
        alike();
        home();
        firstLine();
        noSuchHome();
        classes();
        greatest();
        sorts();
        doubles();
        person();
        Check.close("EdgeAlikeTest");
    }
}
