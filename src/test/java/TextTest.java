/** Promises 9 and 10: text, fault. */
public final class TextTest {
    private static String repeat(String s, int n) {
        StringBuilder b = new StringBuilder();
        for (int i = 0; i < n; i++) {
            b.append(s);
        }
        return b.toString();
    }

    private static void goodOnes() {
        CountedTwice x = new CountedTwice();
        Check.good(x, 0, "", 0);
        Check.good(x, 0, " \n ", 0);
        Check.good(x, 0, "like when letters<first;", 1);
        Check.good(x, 1, "like when ages+near-days*book/house=1;".replace("/house", "/9999"), 1);
        Check.good(x, 2, "home when hour<8;away when day=street+number*kind;", 2);
        Check.good(x, 0, "like\nwhen\n1<2\n;\n", 1);
        Check.good(x, 0, "like when(1<2)and(not 1=2or 3>4);", 1);
        Check.good(x, 0, "like when 1=1and 2=2;", 1);
        Check.good(x, 0, "like when 0000=0;", 1);
        Check.good(x, 0, "like when 1/1/0001=1;", 1);
        Check.good(x, 0, "like when 0*0=0/1;", 1);
        Check.good(x, 0, repeat("like when 1=1;", 16), 16);
        Check.good(x, 2, repeat("home when 1=1;", 16), 16);
        Check.good(x, 0, "like when " + repeat("(", 8) + "1=1" + repeat(")", 8) + ";", 1);
        Check.good(x, 0, "like when " + repeat("not ", 8) + "1=1;", 1);
        Check.good(x, 0, "like when " + repeat("not(", 4) + "1=1" + repeat(")", 4) + ";", 1);
        Check.good(x, 0, "like when " + repeat("(1=1)and not 1=2 or ", 10) + "1=1;", 1);
    }

    private static void misplaced() {
        CountedTwice x = new CountedTwice();
        Check.faulty(x, 0, "like", 1, 4);
        Check.faulty(x, 0, "like  ", 1, 6);
        Check.faulty(x, 0, "like when", 1, 9);
        Check.faulty(x, 0, "when 1=1;", 1, 0);
        Check.faulty(x, 0, "  like like", 1, 7);
        Check.faulty(x, 0, "like when 1=1", 1, 13);
        Check.faulty(x, 0, "like when 1=1;;", 1, 14);
        Check.faulty(x, 0, "like when 1=;", 1, 12);
        Check.faulty(x, 0, "like when 1;", 1, 11);
        Check.faulty(x, 0, "like when 1=1=1;", 1, 13);
        Check.faulty(x, 0, "like when 1 1;", 1, 12);
        Check.faulty(x, 0, "like when ();", 1, 11);
        Check.faulty(x, 0, "like when (1=1;", 1, 14);
        Check.faulty(x, 0, "like when 1=1);", 1, 13);
        Check.faulty(x, 0, "like when (1)=1;", 1, 12);
        Check.faulty(x, 0, "like when 1+(1)=1;", 1, 12);
        Check.faulty(x, 0, "like when -1<1;", 1, 10);
        Check.faulty(x, 0, "like when 1=1 or;", 1, 16);
        Check.faulty(x, 0, "like when 1=1 and or 1=1;", 1, 18);
        Check.faulty(x, 0, "like when not;", 1, 13);
        Check.faulty(x, 0, "like when 1=not 1;", 1, 12);
        Check.faulty(x, 0, "like when 1*=1;", 1, 12);
        Check.faulty(x, 0, "like when 1/ages=1;", 1, 12);
        Check.faulty(x, 0, "like when 1/;", 1, 12);
        Check.faulty(x, 0, "like when 12345=1;", 1, 10);
        Check.faulty(x, 0, "like when 1/12345=1;", 1, 12);
        Check.faulty(x, 0, "like when 1/00000=1;", 1, 12);
        Check.faulty(x, 0, "likes when 1=1;", 1, 0);
        Check.faulty(x, 0, "likewhen 1=1;", 1, 0);
        Check.faulty(x, 0, "lik when 1=1;", 1, 0);
        Check.faulty(x, 0, "like when lettersx=1;", 1, 10);
        Check.faulty(x, 0, "like when hour=1;", 1, 10);
        Check.faulty(x, 0, "like when like=1;", 1, 10);
        Check.faulty(x, 0, "home when 1=1;", 1, 0);
        Check.faulty(x, 0, "LIKE when 1=1;", 1, 0);
        Check.faulty(x, 0, "like\twhen 1=1;", 1, 4);
        Check.faulty(x, 0, "like when 1=1;\r", 1, 14);
        Check.faulty(x, 0, "like when 1=1.", 1, 13);
        Check.faulty(x, 0, "like when 1=1;" + (char) 233, 1, 14);
        Check.faulty(x, 0, "like when 1=1;" + (char) 0, 1, 14);
        Check.faulty(x, 0, "- when 1=1;", 1, 0);
        Check.faulty(x, 1, "away when 1=1;", 1, 0);
        Check.faulty(x, 2, "like when 1=1;", 1, 0);
        Check.faulty(x, 2, "home;", 1, 4);
        Check.faulty(x, 2, "away when ages=1;", 1, 10);
        Check.faulty(x, 2, "away when days=1;", 1, 10);
        Check.faulty(x, 2, "home when 1=1; like when 1=1;", 1, 15);
        Check.faulty(x, 2, "home away when 1=1;", 1, 5);
    }

    private static final String[] LIKE_VALUES = {"letters", "first", "ages", "near", "days", "book", "house"};
    private static final String[] HOME_VALUES = {"hour", "day", "street", "number", "kind"};

    /** Behind what stands ahead of it a keyword, with a capital letter at each place of it, is none as a whole. */
    private static void noKeyword(int k, String ahead, String keyword, String behind) {
        for (char capital : new char[] {'A', 'X', 'Z'}) {
            for (int i = 0; i <= keyword.length(); i++) {
                String put = keyword.substring(0, i) + capital + keyword.substring(i);
                Check.faulty(new CountedTwice(), k, ahead + put + behind, 1, ahead.length());
                if (i < keyword.length()) {
                    String instead = keyword.substring(0, i) + capital + keyword.substring(i + 1);
                    Check.faulty(new CountedTwice(), k, ahead + instead + behind, 1, ahead.length());
                }
            }
        }
    }

    private static void lettersTogether() {
        for (int k = 0; k < 3; k++) {
            for (String beginning : k < 2 ? new String[] {"like"} : new String[] {"home", "away"}) {
                noKeyword(k, "", beginning, "");
                noKeyword(k, "", beginning, " when 1=1;");
                noKeyword(k, repeat(beginning + " when 1=1;", 16), beginning, " when 1=1;");
                noKeyword(k, beginning + " ", "when", " 1=1;");
                noKeyword(k, beginning + " when 1=1 ", "or", " 1=1;");
                noKeyword(k, beginning + " when 1=1", "and", " 1=1;");
                noKeyword(k, beginning + " when ", "not", " 1=1;");
                noKeyword(k, beginning + " when " + repeat("not ", 8), "not", " 1=1;");
                for (String value : k < 2 ? LIKE_VALUES : HOME_VALUES) {
                    noKeyword(k, beginning + " when ", value, "=1;");
                    noKeyword(k, beginning + " when 1=", value, ";");
                }
            }
        }
        CountedTwice x = new CountedTwice();
        Check.faulty(x, 0, "like when 1X=1;", 1, 11);
        Check.faulty(x, 0, "like when X1=1;", 1, 10);
        Check.faulty(x, 0, "like when 1/0X=1;", 2, 12);
        Check.faulty(x, 0, "like when 1=1;X", 1, 14);
    }

    /** What stands just beside the letters, or above 127, is none: what is ahead of it ends there. */
    private static void noLetters() {
        CountedTwice x = new CountedTwice();
        for (int sign : new int[] {'@', '[', '`', '{', '_', '\'', 127, 128, 193, 218, 225, 250, 255}) {
            Check.faulty(x, 0, "like" + (char) sign, 1, 4);
            Check.faulty(x, 0, "like when" + (char) sign + "1=1;", 1, 9);
            Check.faulty(x, 2, "home when hour" + (char) sign + "=1;", 1, 14);
        }
    }

    /** What was on the tape behind its end is no part of a word or a number. */
    private static void theEndCuts() {
        CountedTwice x = new CountedTwice();
        Check.tape(x, "like when days      ");
        x.end(13);
        Check.due("9: 'day' is no keyword here", x.text(0), -1);
        Check.due("10: its place", x.fault(1), 10);
        Check.tape(x, "like when 1=1;;     ");
        x.end(14);
        Check.due("9: one line", x.text(0), 1);
        Check.tape(x, "like                ");
        x.end(3);
        Check.due("9: 'lik'", x.text(0), -1);
        Check.due("10: its place", x.fault(1), 0);
        Check.tape(x, "likeX               ");
        x.end(4);
        Check.due("9: 'like' alone", x.text(0), -1);
        Check.due("10: its place", x.fault(1), 4);
    }

    private static void fullTape() {
        CountedTwice x = new CountedTwice();
        String all = "like when " + repeat("1=1 or ", 55) + "1=1;;";
        Check.due("the text has 400 signs", all.length(), 400);
        Check.faulty(x, 0, all, 1, 399);
        Check.good(x, 0, all.substring(0, 399) + " ", 1);
        Check.faulty(x, 0, repeat("(", 400), 1, 0);
        Check.faulty(x, 0, "like when 1" + repeat("+1", 194) + "+", 1, 400);
        Check.good(x, 2, "home when 1" + repeat("*1", 193) + "=1;", 1);
    }

    private static void parts() {
        CountedTwice x = new CountedTwice();
        Check.faulty(x, 0, "like when ages/0=1;", 2, 15);
        Check.faulty(x, 0, "like when ages / 0000 =1;", 2, 17);
        Check.faulty(x, 2, "home when hour*2/0;", 2, 17);
        Check.faulty(x, 0, "like when 1/0=1; nonsense", 2, 12);
        Check.faulty(x, 0, "like when nonsense/0=1;", 1, 10);
    }

    private static void tooMuch() {
        CountedTwice x = new CountedTwice();
        Check.faulty(x, 0, repeat("like when 1=1;", 17), 3, 224);
        Check.faulty(x, 0, repeat("like when 1=1;", 16) + "like", 3, 224);
        Check.faulty(x, 0, repeat("like when 1=1;", 16) + "when", 1, 224);
        Check.faulty(x, 0, repeat("like when 1=1;", 16) + " 1", 1, 225);
        Check.faulty(x, 2, repeat("home when 1=1;", 16) + "away", 3, 224);
        Check.faulty(x, 0, "like when " + repeat("(", 9) + "1=1" + repeat(")", 9) + ";", 3, 18);
        Check.faulty(x, 0, "like when " + repeat("not ", 9) + "1=1;", 3, 42);
        Check.faulty(x, 0, "like when " + repeat("not(", 4) + "(1=1)" + repeat(")", 4) + ";", 3, 26);
        Check.faulty(x, 0, "like when " + repeat("not(", 4) + "1=1 or not 1=1" + repeat(")", 4) + ";", 3, 33);
        Check.faulty(x, 0, "like when " + repeat("(", 8) + "nonsense", 1, 18);
    }

    private static void staysAsItWas() {
        CountedTwice x = new CountedTwice();
        x.house(0, 0, 0);
        Check.entry(x, "ana", 0, 0, 0, 0, 0, 0);
        Check.entry(x, "ana", 0, 0, 0, 0, 0, 0);
        Check.good(x, 0, "like when letters=0;", 1);
        Check.due("9: same", x.alike(0, 1, 0), 1);
        Check.faulty(x, 0, "like when letters=1; like", 1, 25);
        Check.due("9: stays as it was", x.alike(0, 1, 0), 1);
        Check.due("9: maybe is another text", x.alike(0, 1, 1), 0);
        Check.good(x, 0, "", 0);
        Check.due("9: empty again", x.alike(0, 1, 0), 0);
        Check.due("9: no such text", Check.text(x, 3, "like"), -1);
        Check.due("10: tells 0", x.fault(0), 0);
        Check.due("10: without a place", x.fault(1), -1);
        Check.faulty(x, 1, "like", 1, 4);
        Check.due("9: no such text", Check.text(x, -1, "like"), -1);
        Check.due("10: tells 0", x.fault(0), 0);
        Check.due("10: without a place", x.fault(1), -1);
        Check.faulty(x, 1, "like", 1, 4);
        Check.due("10: another what", x.fault(2), -1);
        Check.due("10: another what", x.fault(-1), -1);
        Check.due("10: again", x.fault(0), 1);
    }

    public static void main(String[] args) {
        goodOnes();
        misplaced();
        lettersTogether();
        noLetters();
        theEndCuts();
        fullTape();
        parts();
        tooMuch();
        staysAsItWas();
        Check.close("TextTest");
    }
}
