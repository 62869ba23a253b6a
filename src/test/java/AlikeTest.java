/** Promises 15 and 16: alike, home; and what the texts mean. */
public final class AlikeTest {
    private static final int SAME = 0;
    private static final int MAYBE = 1;

    private static CountedTwice two(String a, String b) {
        CountedTwice x = new CountedTwice();
        x.house(0, 100, 0);
        x.house(0, 130, 0);
        x.house(5, 7, 0);
        Check.entry(x, a, 0, 3, 0, 10, 500, 40);
        Check.entry(x, b, 1, 3, 2, 14, 600, 33);
        return x;
    }

    private static void letters() {
        Object[][] pairs = {{"a", "a", 0}, {"a", "b", 1}, {"ana", "anna", 1}, {"hanna", "ana", 2}, {"bob", "bo", 1},
            {"kitten", "sitting", 3}, {"abcdefgh", "hgfedcba", 8}, {"abcdefgh", "bcdefgha", 2}, {"ab", "ba", 2},
            {"a", "bcdefghi".substring(0, 8), 8}, {"flaw", "lawn", 2}, {"aaaa", "aa", 2}, {"abcdefgh", "abxxefgh", 2}};
        for (Object[] p : pairs) {
            CountedTwice x = two((String) p[0], (String) p[1]);
            Check.due("15: letters of " + p[0] + ", " + p[1], x.alike(0, 1, 2), (Integer) p[2]);
            Check.due("15: letters of " + p[1] + ", " + p[0], x.alike(1, 0, 2), (Integer) p[2]);
        }
    }

    /** Whether a condition is so for the two entries of two("ana", "aron"). */
    private static void is(String condition, int due) {
        CountedTwice x = two("ana", "aron");
        Check.good(x, SAME, "like when " + condition + ";", 1);
        Check.due("15: " + condition, x.alike(0, 1, SAME), due);
        Check.due("15: either way: " + condition, x.alike(1, 0, SAME), due);
        Check.due("15: not by maybe: " + condition, x.alike(0, 1, MAYBE), 0);
    }

    private static void values() {
        is("letters=3", 1);
        is("first=1", 1);
        is("ages=7", 1);
        is("near=207", 1);
        is("days=4", 1);
        is("book=0", 1);
        is("house=0", 1);
        CountedTwice x = new CountedTwice();
        x.house(0, 5, 0);
        Check.entry(x, "a", 1, 3, 0, 0, 0, 0);
        Check.entry(x, "b", 1, 3, 0, 0, 0, 0);
        Check.entry(x, "c", 1, 4, 0, 0, 0, 0);
        Check.entry(x, "d", 0, 3, 0, 0, 0, 0);
        Check.good(x, SAME, "like when book=1;", 1);
        Check.due("15: one book", x.alike(0, 1, SAME), 1);
        Check.due("15: another counter", x.alike(0, 2, SAME), 0);
        Check.due("15: another count", x.alike(0, 3, SAME), 0);
        Check.good(x, MAYBE, "like when house=1 and first=0 and near=0;", 1);
        Check.due("15: one house", x.alike(0, 2, MAYBE), 1);
    }

    private static void sums() {
        is("1+2*3=7", 1);
        is("2*3+1=7", 1);
        is("10-2-3=5", 1);
        is("10-2+3=11", 1);
        is("7/2=3", 1);
        is("7/1=7", 1);
        is("7/2*2=6", 1);
        is("7*3/2=10", 1);
        is("0-7/2=0-3", 1);
        is("0-7<0", 1);
        is("days-ages=0-3", 1);
        is("3-10/4=1", 1);
        is("ages*9999*9999*9999<0", (7 * 9999 * 9999 * 9999) < 0 ? 1 : 0);
        is("9999*9999*99>0", 9999 * 9999 * 99 > 0 ? 1 : 0);
        is("9999*9999*99/7>0", 9999 * 9999 * 99 / 7 > 0 ? 1 : 0);
        is("5<5", 0);
        is("5>5", 0);
        is("5=5", 1);
        is("4<5", 1);
        is("5>4", 1);
        is("4>5", 0);
    }

    /** On day 1 the first sum is above 0, on day 3 it has wrapped and is below 0. */
    private static void wrapsAndGoesTowardsZero() {
        CountedTwice x = new CountedTwice();
        x.house(0, 0, 0);
        Check.good(x, 2, "away when day*9999*9999*9<0;", 1);
        Check.isSo("the sums are as told", 9999 * 9999 * 9 > 0 && 3 * 9999 * 9999 * 9 < 0);
        Check.due("16: above 0", x.home(0, 1, 0), 1);
        Check.due("16: wrapped", x.home(0, 3, 0), 0);
        Check.good(x, 2, "away when day-9/2=0-2;", 1);
        Check.due("16: a part comes ahead of a difference: 2 - 9 / 2", x.home(0, 2, 0), 0);
        Check.isSo("both are odd", 3 * 9999 * 9999 * 9 % 2 == -1 && 9999 * 9999 * 9 % 2 == 1);
        Check.good(x, 2, "away when day*9999*9999*9/2*2=day*9999*9999*9+1;", 1);
        Check.due("16: towards 0 from below", x.home(0, 3, 0), 0);
        Check.due("16: towards 0 from above", x.home(0, 1, 0), 1);
        Check.good(x, 2, "away when day*9999*9999*9/2*2=day*9999*9999*9-1;", 1);
        Check.due("16: towards 0 from below", x.home(0, 3, 0), 1);
        Check.due("16: towards 0 from above", x.home(0, 1, 0), 0);
    }

    private static void conditions() {
        is("1=1 or 1=1 and 1=2", 1);
        is("1=2 and 1=1 or 1=1", 1);
        is("1=2 and (1=1 or 1=1)", 0);
        is("not 1=2 and 1=2", 0);
        is("not (1=2 and 1=2)", 1);
        is("not 1=1 or 1=1", 1);
        is("not not 1=1", 1);
        is("not not not 1=1", 0);
        is("1=2 or 1=2 or 1=1", 1);
        is("1=1 and 1=1 and 1=2", 0);
        is("((1=1))", 1);
        is("(1=1 or 1=2) and (1=2 or 1=1)", 1);
        CountedTwice x = two("ana", "aron");
        Check.good(x, SAME, "like when 1=2; like when days=4; like when 1=2;", 3);
        Check.due("15: some line is so", x.alike(0, 1, SAME), 1);
        Check.good(x, SAME, "like when 1=2; like when days=5;", 2);
        Check.due("15: none is so", x.alike(0, 1, SAME), 0);
    }

    private static void asked() {
        CountedTwice x = two("ana", "bob");
        Check.due("15: empty texts", x.alike(0, 1, SAME), 0);
        Check.due("15: empty texts", x.alike(0, 1, MAYBE), 0);
        Check.due("15: near", x.alike(0, 1, 3), 207);
        x.gap(5, 0, 1);
        Check.due("15: near by the new gap", x.alike(1, 0, 3), 108);
        Check.good(x, MAYBE, "like when near<109;", 1);
        Check.due("15: by it", x.alike(0, 1, MAYBE), 1);
        x.gap(0, 5, 2);
        Check.due("15: by the next", x.alike(0, 1, MAYBE), 0);
        Check.due("15: the same", x.alike(0, 0, 2), -1);
        Check.due("15: none such", x.alike(0, 2, 2), -1);
        Check.due("15: none such", x.alike(-1, 0, 2), -1);
        Check.due("15: another what", x.alike(0, 1, 4), -1);
        Check.due("15: another what", x.alike(0, 1, -1), -1);
        x.voids(0);
        x.view(0);
        Check.due("15: known or not", x.alike(0, 1, 2), 3);
        Check.good(x, SAME, "like when 1=1;", 1);
        Check.due("15: known or not", x.alike(0, 1, SAME), 1);
    }

    private static void home() {
        CountedTwice x = new CountedTwice();
        x.house(7, 300, 4);
        x.house(8, 301, 5);
        Check.due("16: without a line", x.home(0, 99, 1439), 1);
        Check.good(x, 2, "away when hour=8; home when day=3; away when street=7 and number=300 and kind=4;", 3);
        Check.due("16: the hour", x.home(1, 3, 480), 0);
        Check.due("16: the hour's end", x.home(1, 3, 539), 0);
        Check.due("16: ahead of it", x.home(1, 3, 479), 1);
        Check.due("16: the second line", x.home(0, 3, 540), 1);
        Check.due("16: the third line", x.home(0, 4, 540), 0);
        Check.due("16: none", x.home(1, 4, 540), 1);
        Check.good(x, 2, "home when 1=1; away when 1=1;", 2);
        Check.due("16: the first line that is so", x.home(0, 0, 0), 1);
        Check.good(x, 2, "away when hour=23 or hour<1;", 1);
        Check.due("16: late", x.home(0, 0, 1439), 0);
        Check.due("16: early", x.home(0, 0, 59), 0);
        Check.due("16: not so early", x.home(0, 0, 60), 1);
        Check.due("16: no such house", x.home(2, 0, 0), -1);
        Check.due("16: no such house", x.home(-1, 0, 0), -1);
        Check.due("16: day 100", x.home(0, 100, 0), -1);
        Check.due("16: day -1", x.home(0, -1, 0), -1);
        Check.due("16: minute 1440", x.home(0, 0, 1440), -1);
        Check.due("16: minute -1", x.home(0, 0, -1), -1);
    }

    public static void main(String[] args) {
        letters();
        values();
        sums();
        wrapsAndGoesTowardsZero();
        conditions();
        asked();
        home();
        Check.close("AlikeTest");
    }
}
