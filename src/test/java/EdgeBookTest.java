/** The boundaries of the entries, of time and of the view, and of promises 11 to 14, sentence by sentence. */
public final class EdgeBookTest {
    private static final int[] LEAST = {0, 0, 0, 0, 0, 0};
    private static final int[] GREATEST = {1, 10, 2, 99, 1439, 119};

    private static int tell(CountedTwice x, String name, int[] facts) {
        return Check.entry(x, name, facts[0], facts[1], facts[2], facts[3], facts[4], facts[5]);
    }

    private static int[] with(int[] facts, int place, int v) {
        int[] copy = facts.clone();
        copy[place] = v;
        return copy;
    }

    private static void factsThatCanBe() {
        Check.says("ENTRIES 0 .. 119 as they come: a COUNT (0 the open one, 1 the secret one), a COUNTER 0 .. 10, a HOUSE, "
                + "a DAY 0 .. 99, a MINUTE 0 .. 1439 (of the DAY), an AGE 0 .. 119, a NAME of 1 to 8 small letters.");
        CountedTwice x = Check.houses(3);
        int e = 0;
        for (int place = 0; place < 6; place++) {
            int[][] both = {with(LEAST, place, GREATEST[place]), with(GREATEST, place, LEAST[place])};
            for (int[] facts : both) {
                Check.due("an edge of fact " + place, tell(x, "ana", facts), e);
                for (int what = 0; what < 6; what++) {
                    Check.due("fact " + what + " of " + e, x.of(e, what), facts[what]);
                }
                e++;
            }
        }
        Check.due("the least of all", tell(x, "a", LEAST), e);
        Check.due("the greatest of all", tell(x, "zzzzzzzz", GREATEST), e + 1);
    }

    private static void factsThatCant() {
        Check.says("An ENTRY with the TAPE (empty then) as its NAME: its number; NONE if one can't be, or there are 120.");
        for (int place = 0; place < 6; place++) {
            CountedTwice x = Check.houses(3);
            int at = place;
            tell(x, "ana", GREATEST);
            Check.refused("fact " + at, 0, GREATEST[at], v -> tell(x, "ana", with(LEAST, at, v)), -1);
            Check.refused("fact " + at, 0, GREATEST[at], v -> tell(x, "ana", with(GREATEST, at, v)), -1);
            Check.due("none came", x.look(1), 1);
            Check.due("time stands", x.look(3), 1);
            Check.due("the next number", tell(x, "ana", LEAST), 1);
        }
        CountedTwice x = Check.houses(2);
        Check.due("a house that isn't there yet", tell(x, "ana", GREATEST), -1);
        x.house(0, 0, 0);
        Check.due("now it is", tell(x, "ana", GREATEST), 0);
    }

    private static void lengthsOfNames() {
        for (int length = 0; length <= 22; length++) {
            CountedTwice x = Check.houses(1);
            String name = "abcdefghijklmnopqrstuvwxyz".substring(0, length);
            boolean is = length >= 1 && length <= 8;
            Check.due("a name of " + length, tell(x, name, LEAST), is ? 0 : -1);
            Check.due("entries", x.look(1), is ? 1 : 0);
            Check.due("letters", x.of(0, 6), is ? length : -1);
            Check.due("the tape is empty", x.end(1), false);
            Check.due("none is on it", x.end(0), true);
        }
        CountedTwice x = Check.houses(1);
        Check.due("a full tape", tell(x, Check.repeat("a", 400), LEAST), -1);
        Check.due("is empty then", x.feed(0, 0, 0, 0, 0), 20);
        x.end(0);
        Check.due("no name at all", x.entry(0, 0, 0, 0, 0, 0), -1);
    }

    /** The signs beside a .. z, capitals, digits, blanks and bytes above 127, at each place of a name. */
    private static void signsOfNames() {
        char[] signs = {'`', '{', 'A', 'Z', '@', '[', '0', '9', ' ', '\n', '\t', 0, 1, 127, 128, 'a' + 128, 'z' + 128, 255};
        for (int length = 1; length <= 8; length++) {
            for (int place = 0; place < length; place++) {
                CountedTwice x = Check.houses(1);
                StringBuilder name = new StringBuilder(Check.repeat("m", length));
                for (char sign : signs) {
                    name.setCharAt(place, sign);
                    Check.due("sign " + (int) sign + " at " + place + " of " + length, tell(x, name.toString(), LEAST), -1);
                }
                name.setCharAt(place, 'a');
                Check.due("an a", tell(x, name.toString(), LEAST), 0);
                name.setCharAt(place, 'z');
                Check.due("a z", tell(x, name.toString(), LEAST), 1);
                Check.due("that a", x.of(0, 10 + place), 0);
                Check.due("that z", x.of(1, 10 + place), 25);
            }
        }
    }

    /** What stands on the tape behind its end is no part of a name. */
    private static void theEndOfTheTape() {
        CountedTwice x = Check.houses(1);
        Check.tape(x, "abcdefghi");
        Check.due("nine letters", x.entry(0, 0, 0, 0, 0, 0), -1);
        Check.tape(x, "abcdefghi");
        x.end(8);
        Check.due("the first eight", x.entry(0, 0, 0, 0, 0, 0), 0);
        Check.due("h", x.of(0, 17), 7);
        Check.tape(x, "xyZ");
        x.end(2);
        Check.due("the first two", x.entry(0, 0, 0, 0, 0, 0), 1);
        Check.due("no third", x.of(1, 12), -1);
        Check.due("of what was there", x.of(1, 6), 2);
    }

    private static CountedTwice full() {
        CountedTwice x = Check.houses(1);
        for (int e = 0; e < 119; e++) {
            tell(x, "ana", LEAST);
        }
        return x;
    }

    private static void hundredAndTwenty() {
        CountedTwice x = full();
        Check.due("119 stand", x.look(1), 119);
        Check.due("the hundred-and-twentieth", tell(x, "zoe", LEAST), 119);
        Check.due("there are 120", tell(x, "bob", LEAST), -1);
        Check.due("the tape is empty all the same", x.end(1), false);
        Check.due("120 told", x.look(1), 120);
        Check.due("time", x.look(3), 120);
        Check.due("the last is as it was", x.of(119, 10), 25);
        Check.due("none behind it", x.of(120, 0), -1);
        Check.due("a void", x.voids(119), true);
        Check.due("makes no room", tell(x, "bob", LEAST), -1);
        Check.due("time", x.look(3), 121);
        Check.due("119 known", x.look(2), 119);
    }

    /** Entries 0, 1 and 2; voids of 0, 2 and 1: what is known at each time. */
    private static void known() {
        Check.says("Time is how many ENTRIES and VOIDS were told.");
        CountedTwice x = Check.houses(2);
        Check.due("time at first", x.look(3), 0);
        tell(x, "a", LEAST);
        Check.due("an entry", x.look(3), 1);
        tell(x, "b", LEAST);
        tell(x, "B", LEAST);
        Check.due("one that can't be is not told", x.look(3), 2);
        x.voids(0);
        Check.due("a void", x.look(3), 3);
        x.voids(0);
        Check.due("one that can't be is not told", x.look(3), 3);
        tell(x, "c", with(LEAST, 2, 1));
        x.voids(2);
        x.voids(1);
        Check.due("all", x.look(3), 6);
        Check.says("An ENTRY is KNOWN at a time from that just behind it on, till that just behind its VOID (then it is not any more).");
        int[][] known = {{0, 0, 0}, {1, 0, 0}, {1, 1, 0}, {0, 1, 0}, {0, 1, 1}, {0, 1, 0}, {0, 0, 0}};
        for (int time = 0; time <= 6; time++) {
            x.view(time);
            int many = 0;
            for (int e = 0; e < 3; e++) {
                Check.due("entry " + e + " at " + time, x.of(e, 7), known[time][e]);
                many += known[time][e];
            }
            Check.due("known at " + time, x.look(2), many);
            Check.due("told", x.look(1), 3);
        }
    }

    /** All that is asked, at the times just ahead of an entry, just behind it, and just behind its void. */
    private static void askedAtTheView() {
        Check.says("All that is asked is so as KNOWN at the VIEW: a time told, or now (NONE, at first): ENTRIES are those KNOWN then.");
        CountedTwice x = new CountedTwice();
        x.house(3, 0, 1);
        x.house(4, 0, 1);
        Check.text(x, 2, "away when kind=1;");
        x.last(0, 0, 3);
        x.last(1, 0, 9);
        x.plan(0, 0, 0);
        tell(x, "ana", with(LEAST, 5, 7));
        x.voids(0);
        int[] times = {0, 1, 2, -1};
        int[] is = {0, 1, 0, 0};
        for (int i = 0; i < 4; i++) {
            String when = " at " + times[i];
            x.view(times[i]);
            Check.due("look(2)" + when, x.look(2), is[i]);
            Check.due("persons" + when, x.look(5), is[i]);
            Check.due("missed" + when, x.look(6), 2 - is[i]);
            Check.due("missed of the street" + when, x.look(13), 1 - is[i]);
            Check.due("of(0, 7)" + when, x.of(0, 7), is[i]);
            Check.due("of(0, 8)" + when, x.of(0, 8), is[i] - 1);
            Check.due("person" + when, x.person(0, 0), is[i] == 1 ? 1 : -1);
            Check.due("table" + when, x.table(3, 0), is[i]);
            Check.due("ends(0)" + when, x.ends(0), is[i]);
            Check.due("ends(1)" + when, x.ends(1), is[i]);
            Check.due("counter's entries" + when, x.counter(0, 0), is[i]);
            Check.due("ghosts" + when, x.counter(0, 2), is[i]);
            Check.due("evenness" + when, x.counter(0, 5), is[i]);
            Check.due("even" + when, x.even(0), is[i] == 1 ? 10 : 1);
            Check.due("suspect" + when, x.suspect(), is[i] - 1);
            Check.due("planned" + when, x.planned(), 1 - is[i]);
            Check.due("best" + when, x.best(), 1 - is[i]);
            Check.due("lots" + when, x.lots(2), is[i] == 1 ? -1 : 3);
        }
    }

    /** An entry between two that are alike, and the least one of a person, come and go with the view. */
    private static void personsAtTheView() {
        CountedTwice x = new CountedTwice();
        x.house(3, 0, 1);
        x.house(4, 0, 1);
        Check.text(x, 0, "like when ages=1;");
        tell(x, "a", with(LEAST, 5, 10));
        tell(x, "b", new int[] {1, 0, 1, 0, 0, 12});
        tell(x, "c", with(LEAST, 5, 11));
        x.voids(0);
        x.voids(2);
        int[] times = {2, 3, 4, 5};
        int[] persons = {2, 1, 1, 1};
        int[] least = {0, 0, 1, 1};
        int[] sort = {0, 2, 2, 1};
        int[] doubles = {0, 1, 1, 0};
        for (int i = 0; i < 4; i++) {
            x.view(times[i]);
            Check.due("persons at " + times[i], x.look(5), persons[i]);
            Check.due("the least at " + times[i], x.person(0, 1), least[i]);
            Check.due("what it is at " + times[i], x.person(0, 2), sort[i]);
            Check.due("doubles at " + times[i], x.table(-1, 4), doubles[i]);
            Check.due("doubles of the least one's street at " + times[i], x.table(3 + least[i], 4), doubles[i]);
        }
    }

    private static void voids() {
        Check.says("An ENTRY is VOID: true; false if there is none such, or it is.");
        CountedTwice x = Check.houses(1);
        Check.due("none told", x.voids(0), false);
        Check.due("none told", x.voids(-1), false);
        for (int e = 0; e < 3; e++) {
            tell(x, "ana", LEAST);
        }
        Check.refused("none such", 0, 2, v -> Check.bit(x.voids(v)), 0);
        Check.due("time stands", x.look(3), 3);
        Check.due("all are known", x.look(2), 3);
        Check.due("the last", x.voids(2), true);
        Check.due("the first", x.voids(0), true);
        Check.due("it is", x.voids(0), false);
        Check.due("it is", x.voids(2), false);
        Check.due("time", x.look(3), 5);
        Check.due("one is known", x.look(2), 1);
        Check.due("the one between", x.of(1, 7), 1);
        x.view(3);
        Check.due("it is, though it was known then", x.voids(0), false);
        x.view(0);
        Check.due("told, though it was not known then", x.voids(1), true);
        Check.due("time", x.look(3), 6);
        x.view(-1);
        Check.due("none is known", x.look(2), 0);
    }

    private static void view() {
        Check.says("The VIEW is a time (0 .. now), or now (NONE): true; false if it can't be.");
        CountedTwice x = Check.houses(1);
        Check.due("now at first", x.look(4), -1);
        Check.due("0 is now", x.view(0), true);
        Check.due("1 is not yet", x.view(1), false);
        Check.due("still 0", x.look(4), 0);
        tell(x, "ana", LEAST);
        Check.due("1 is now", x.view(1), true);
        tell(x, "bob", LEAST);
        Check.due("a told time stays", x.look(4), 1);
        Check.due("and what is known then", x.look(2), 1);
        Check.due("now", x.view(-1), true);
        Check.due("now goes on", x.look(2), 2);
        x.voids(0);
        Check.due("now goes on", x.look(2), 1);
        Check.due("3 is now", x.view(3), true);
        Check.due("looked at", x.look(4), 3);
        Check.refused("can't be", -1, 3, v -> Check.bit(x.view(v)), 0);
        Check.due("still 3", x.look(4), 3);
        Check.due("as known then", x.look(2), 1);
        x.view(-1);
        Check.refused("can't be", -1, 3, v -> Check.bit(x.view(v)), 0);
        Check.due("still now", x.look(4), -1);
    }

    private static void of() {
        Check.says("Of an ENTRY (KNOWN at the VIEW or not) what 0 COUNT, 1 COUNTER, 2 HOUSE, 3 DAY, 4 MINUTE, 5 AGE, 6 letters of its NAME, "
                + "7 1 if it is KNOWN at the VIEW, else 0, 8 its PERSON (NONE if it is not KNOWN), 10 + k letter k of its NAME (a 0 .. z 25).");
        CountedTwice x = Check.houses(3);
        tell(x, "a", LEAST);
        tell(x, "abcdwxyz", GREATEST);
        int[] due = {1, 10, 2, 99, 1439, 119, 8, 1, 1, -1, 0, 1, 2, 3, 22, 23, 24, 25, -1};
        for (int what = 0; what < due.length; what++) {
            Check.due("of(1, " + what + ")", x.of(1, what), due[what]);
            int due0 = what == 6 || what == 7 ? 1 : what > 10 || what == 9 ? -1 : 0;
            Check.due("of(0, " + what + ")", x.of(0, what), due0);
        }
        x.view(1);
        due[7] = 0;
        due[8] = -1;
        for (int what = 0; what < due.length; what++) {
            Check.due("not known yet: of(1, " + what + ")", x.of(1, what), due[what]);
        }
        x.view(-1);
        x.voids(1);
        for (int what = 0; what < due.length; what++) {
            Check.due("void: of(1, " + what + ")", x.of(1, what), due[what]);
        }
    }

    private static void noSuchOf() {
        Check.says("NONE if there is none such, or another what.");
        CountedTwice none = Check.houses(1);
        Check.due("none told", none.of(0, 0), -1);
        for (int length = 1; length <= 8; length++) {
            CountedTwice x = Check.houses(1);
            tell(x, "ana", LEAST);
            tell(x, Check.repeat("z", length), LEAST);
            Check.due("the last letter of " + length, x.of(1, 9 + length), 25);
            Check.due("none behind it", x.of(1, 10 + length), -1);
            Check.refused("another what", 0, 9 + length, v -> x.of(1, v), -1);
            Check.due("9", x.of(1, 9), -1);
            for (int what = 0; what <= 10; what++) {
                int asked = what;
                Check.refused("none such, what " + what, 0, 1, v -> x.of(v, asked), -1);
            }
        }
    }

    public static void main(String[] args) {
        factsThatCanBe();
        factsThatCant();
        lengthsOfNames();
        signsOfNames();
        theEndOfTheTape();
        hundredAndTwenty();
        known();
        askedAtTheView();
        personsAtTheView();
        voids();
        view();
        of();
        noSuchOf();
        Check.close("EdgeBookTest");
    }
}
