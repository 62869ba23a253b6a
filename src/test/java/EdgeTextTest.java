import java.util.Arrays;
import java.util.List;

/** The boundaries of the tape, of the texts' grammar and of their faults, and of promises 7 to 10, sentence by sentence. */
public final class EdgeTextTest {
    private static final int BLANKS = 0x20202020;
    private static final String[] BEGINNINGS = {"like", "like", "home"};

    private static void feed() {
        Check.says("Twenty bytes come behind the TAPE, of each number the highest first: how many it has.");
        for (int place = 0; place < 20; place++) {
            int[] words = {BLANKS, BLANKS, BLANKS, BLANKS, BLANKS};
            int shift = 24 - 8 * (place % 4);
            words[place / 4] = BLANKS & ~(255 << shift) | '?' << shift;
            CountedTwice x = new CountedTwice();
            Check.due("twenty", x.feed(words[0], words[1], words[2], words[3], words[4]), 20);
            Check.due("a sign that can't stand there", x.text(0), -1);
            Check.due("its place", x.fault(1), place);
            x.feed(BLANKS, BLANKS, BLANKS, BLANKS, BLANKS);
            Check.due("behind them", x.feed(words[0], words[1], words[2], words[3], words[4]), 40);
            x.text(0);
            Check.due("its place behind twenty", x.fault(1), 20 + place);
        }
        CountedTwice x = Check.houses(1);
        x.feed(0x61626364, 0x7778797a, -1, Integer.MIN_VALUE, Integer.MAX_VALUE);
        x.end(8);
        x.entry(0, 0, 0, 0, 0, 0);
        int[] letters = {0, 1, 2, 3, 22, 23, 24, 25};
        for (int k = 0; k < 8; k++) {
            Check.due("letter " + k, x.of(0, 10 + k), letters[k]);
        }
    }

    private static int blanks(CountedTwice x) {
        return x.feed(BLANKS, BLANKS, BLANKS, BLANKS, BLANKS);
    }

    private static CountedTwice blankTape(int length) {
        CountedTwice x = new CountedTwice();
        for (int n = 0; n < length; n += 20) {
            blanks(x);
        }
        x.end(length);
        return x;
    }

    private static void fullTape() {
        Check.says("NONE, and nothing comes, if there would be more than 400.");
        int nonsense = 0x3f3f3f3f;
        for (int length : new int[] {0, 1, 379, 380, 381, 399, 400}) {
            CountedTwice x = blankTape(length);
            boolean fits = length <= 380;
            Check.due("behind " + length, x.feed(nonsense, nonsense, nonsense, nonsense, nonsense), fits ? length + 20 : -1);
            int has = fits ? length + 20 : length;
            Check.due("it has not one more", x.end(has + 1), false);
            Check.due("it has so many", x.end(has), true);
            Check.due("nonsense or nothing came", x.text(0), fits ? -1 : 0);
            Check.due("where it came", x.fault(1), fits ? length : -1);
        }
        CountedTwice x = new CountedTwice();
        for (int n = 20; n <= 400; n += 20) {
            Check.due("twenty more", blanks(x), n);
        }
        Check.due("no more", blanks(x), -1);
        Check.due("no more", blanks(x), -1);
        x.end(380);
        Check.due("room again", blanks(x), 400);
    }

    private static void end() {
        Check.says("The TAPE has its first n bytes alone: true; false, changing nothing, if it has not so many, or n is below 0.");
        CountedTwice x = Check.houses(1);
        Check.due("none of none", x.end(0), true);
        Check.refused("of none", 0, 0, v -> Check.bit(x.end(v)), 0);
        Check.tape(x, "abcdefghijklmnopqrst");
        Check.refused("of twenty", 0, 20, v -> Check.bit(x.end(v)), 0);
        Check.due("all of them", x.end(20), true);
        Check.due("one less", x.end(19), true);
        Check.due("not twenty any more", x.end(20), false);
        Check.due("the first five", x.end(5), true);
        Check.refused("of five", 0, 5, v -> Check.bit(x.end(v)), 0);
        Check.due("behind five", x.feed(0x78797a00, 0, 0, 0, 0), 25);
        Check.due("eight", x.end(8), true);
        x.entry(0, 0, 0, 0, 0, 0);
        int[] letters = {0, 1, 2, 3, 4, 23, 24, 25};
        for (int k = 0; k < 8; k++) {
            Check.due("letter " + k, x.of(0, 10 + k), letters[k]);
        }
        CountedTwice full = blankTape(400);
        Check.refused("of 400", 0, 400, v -> Check.bit(full.end(v)), 0);
        Check.due("400", full.end(400), true);
        Check.due("one", full.end(1), true);
        Check.due("none", full.end(0), true);
        Check.due("not one", full.end(1), false);
    }

    private static String lines(int k, int n) {
        return Check.repeat(BEGINNINGS[k] + " when 1=1;", n);
    }

    private static void text() {
        Check.says("The TAPE, empty then, is TEXT k (0 SAME, 1 MAYBE, 2 HOME): how many lines.");
        for (int k = 0; k < 3; k++) {
            for (int n : new int[] {0, 1, 2, 15, 16}) {
                CountedTwice x = new CountedTwice();
                Check.good(x, k, lines(k, n), n);
                Check.due("the tape is empty", x.end(1), false);
                Check.due("a text of it", x.text(k), 0);
            }
        }
        CountedTwice x = Check.houses(1);
        Check.entry(x, "a", 0, 0, 0, 0, 0, 0);
        Check.entry(x, "a", 0, 0, 0, 0, 0, 0);
        int[][] is = {{1, 0, 1}, {1, 1, 1}, {1, 1, 0}};
        for (int k = 0; k < 3; k++) {
            Check.text(x, k, k == 2 ? "away when 1=1;" : "like when 1=1;");
            Check.due("same, told " + k, x.alike(0, 1, 0), is[k][0]);
            Check.due("maybe, told " + k, x.alike(0, 1, 1), is[k][1]);
            Check.due("home, told " + k, x.home(0, 0, 0), is[k][2]);
        }
        for (int k = 0; k < 3; k++) {
            Check.due("empty again", x.text(k), 0);
        }
        Check.due("same", x.alike(0, 1, 0), 0);
        Check.due("maybe", x.alike(0, 1, 1), 0);
        Check.due("home", x.home(0, 0, 0), 1);
    }

    private static void noSuchText() {
        Check.says("NONE: no such one (fault() tells 0), or a FAULT (it stays as it was).");
        CountedTwice x = new CountedTwice();
        for (int k : Check.outside(0, 2)) {
            Check.faulty(x, 0, "like", 1, 4);
            Check.due("text(" + k + ")", Check.text(x, k, "like when 1=1;"), -1);
            Check.due("fault(0)", x.fault(0), 0);
            Check.due("fault(1)", x.fault(1), -1);
            Check.due("the tape is empty", x.end(1), false);
            Check.due("text(" + k + ") of a fault", Check.text(x, k, "nonsense"), -1);
            Check.due("fault(0)", x.fault(0), 0);
        }
    }

    private static CountedTwice threeTexts() {
        CountedTwice x = Check.houses(1);
        Check.entry(x, "a", 0, 0, 0, 0, 0, 0);
        Check.entry(x, "b", 1, 0, 0, 1, 0, 9);
        Check.text(x, 0, "like when days=1;");
        Check.text(x, 1, "like when ages=9;");
        Check.text(x, 2, "away when day=5;");
        return x;
    }

    private static void staysAsItWas() {
        String tooMany = Check.repeat("(", 9);
        for (int k = 0; k < 3; k++) {
            String other = (k == 2 ? "home when day=5" : "like when 1=2") + ";";
            String line = (k == 2 ? "home when day=5" : "like when 1=2") + " and ";
            String[] texts = {"x", other + "x", other + BEGINNINGS[k], line + "1/0=1;", line + tooMany, other + lines(k, 16), other + ";"};
            int[] faults = {1, 1, 1, 2, 3, 3, 1};
            for (int i = 0; i < texts.length; i++) {
                CountedTwice x = threeTexts();
                Check.due("text(" + k + ") of '" + texts[i] + "'", Check.text(x, k, texts[i]), -1);
                Check.due("its fault", x.fault(0), faults[i]);
                Check.due("the tape is empty", x.end(1), false);
                Check.due("same stays", x.alike(0, 1, 0), 1);
                Check.due("maybe stays", x.alike(0, 1, 1), 1);
                Check.due("home stays", x.home(0, 5, 0), 0);
                Check.due("home stays", x.home(0, 4, 0), 1);
                Check.due("one person stays", x.look(5), 1);
            }
        }
    }

    private static void fault() {
        Check.says("Of the latest text(): what 0 the FAULT (0 without one), 1 its place (NONE).");
        CountedTwice x = Check.houses(1);
        Check.due("at first", x.fault(0), 0);
        Check.due("at first", x.fault(1), -1);
        Check.faulty(x, 1, "?", 1, 0);
        Check.faulty(x, 0, "like when 1/0", 2, 12);
        Check.faulty(x, 2, lines(2, 17), 3, 224);
        Check.good(x, 0, "", 0);
        Check.faulty(x, 2, "home", 1, 4);
        Check.entry(x, "ana", 0, 0, 0, 0, 0, 0);
        Check.entry(x, "", 0, 0, 0, 0, 0, 0);
        blanks(x);
        x.end(0);
        Check.due("other calls are no text()", x.fault(0), 1);
        Check.due("other calls are no text()", x.fault(1), 4);
        Check.says("NONE for another what.");
        Check.refused("with a fault", 0, 1, v -> x.fault(v), -1);
        Check.good(x, 0, "", 0);
        Check.refused("without one", 0, 1, v -> x.fault(v), -1);
    }

    private static final List<String> LIKE_UNITS = List.of("7", "letters", "first", "ages", "near", "days", "book", "house");
    private static final List<String> HOME_UNITS = List.of("7", "hour", "day", "street", "number", "kind");
    private static final String[] TOKENS = {"like", "home", "away", "when", "or", "and", "not", "letters", "first", "ages", "near",
        "days", "book", "house", "hour", "day", "street", "number", "kind", "7", "0", "0000", "9999", "00000", "10000", ";", "+", "-",
        "*", "/", "(", ")", "<", "=", ">", ".", ",", ":", "!", "?", "x", "X", "lik", "likes", "Like", "\t", "\r", "_", "\u00e9", "\u0000",
        "\u007f", "\u0080", "\u00a0", "\u00ff"};

    private static boolean isNumber(String token) {
        return token.matches("[0-9]{1,4}");
    }

    private static boolean isUnit(int k, String token) {
        return isNumber(token) || (k == 2 ? HOME_UNITS : LIKE_UNITS).contains(token);
    }

    private static boolean isBeginning(int k, String token) {
        return k == 2 ? token.equals("home") || token.equals("away") : token.equals("like");
    }

    /** What can come next, in the letters of the table below. */
    private static boolean can(char next, int k, String token) {
        switch (next) {
            case 'L':
                return isBeginning(k, token);
            case 'W':
                return token.equals("when");
            case 'C':
                return isUnit(k, token) || token.equals("not") || token.equals("(");
            case 'U':
                return isUnit(k, token);
            case 'N':
                return isNumber(token);
            case 'S':
                return List.of("+", "-", "*", "/").contains(token);
            case 'R':
                return List.of("<", "=", ">").contains(token);
            case 'J':
                return List.of("and", "or").contains(token);
            default:
                return token.equals(String.valueOf(next));
        }
    }

    private static boolean canBeOneOf(String nexts, int k, String token) {
        boolean is = false;
        for (char next : nexts.toCharArray()) {
            is = is || can(next, k, token);
        }
        return is;
    }

    /** Each place of the grammar with each token: what can stand there leaves the fault to the end, all else is the fault. */
    private static void grammar() {
        Check.says("LIKENESS 0 (SAME), 1 (MAYBE) are TEXTS (empty at first) = {like when B ;}.");
        Check.says("HOME is a TEXT (text 2; empty at first) = {(home | away) when B ;}.");
        Check.says("B = A {or A}.");
        Check.says("A = C {and C}.");
        Check.says("C = E (< | = | >) E | not C | ( B ).");
        Check.says("E = T {(+ | -) T}.");
        Check.says("T = U {* U | / NUMBER}.");
        Check.says("U = NUMBER | letters | first | ages | near | days | book | house in LIKENESS; NUMBER | hour | day | street | number | kind in HOME.");
        String[][] places = {{"L", "W"}, {"L when", "C"}, {"L when 1", "SR"}, {"L when 1+", "U"}, {"L when 1-", "U"}, {"L when 1*", "U"},
            {"L when 1/", "N"}, {"L when 1/1", "SR"}, {"L when 1=", "U"}, {"L when 1<", "U"}, {"L when 1>", "U"}, {"L when 1=1", "SJ;"},
            {"L when 1=1/1", "SJ;"}, {"L when 1=1*1", "SJ;"}, {"L when 1=1-1", "SJ;"}, {"L when 1=1/", "N"}, {"L when 1=1+", "U"},
            {"L when 1=1 and", "C"}, {"L when 1=1 or", "C"}, {"L when not", "C"}, {"L when not not", "C"}, {"L when (", "C"},
            {"L when (1=1", "SJ)"}, {"L when (1=1)", "J;"}, {"L when ((1=1)", "J)"}, {"L when not 1=1", "SJ;"}, {"L when not(1=1)", "J;"},
            {"L when (not 1=1", "SJ)"}, {"L when 1=1;", "L"}, {"L when 1=1;L", "W"}, {"", "L"}, {" \n ", "L"}};
        for (int k = 0; k < 3; k++) {
            for (String[] place : places) {
                String ahead = place[0].replace("L", BEGINNINGS[k]);
                for (String token : TOKENS) {
                    next(k, ahead, token, canBeOneOf(place[1], k, token));
                }
                if (place[1].equals("L")) {
                    Check.good(new CountedTwice(), k, ahead, ahead.contains(";") ? 1 : 0);
                } else {
                    Check.faulty(new CountedTwice(), k, ahead, 1, ahead.length());
                    Check.faulty(new CountedTwice(), k, ahead + " \n", 1, ahead.length() + 2);
                }
            }
        }
    }

    private static void next(int k, String ahead, String token, boolean can) {
        CountedTwice x = new CountedTwice();
        String all = ahead + " " + token;
        boolean byNothing = ahead.endsWith("/") && isNumber(token) && Integer.parseInt(token) == 0;
        if (!can) {
            Check.faulty(x, k, all, 1, ahead.length() + 1);
        } else if (byNothing) {
            Check.faulty(x, k, all, 2, ahead.length() + 1);
        } else if (token.equals(";")) {
            Check.good(x, k, all, 1);
        } else {
            Check.faulty(x, k, all, 1, all.length());
        }
    }

    private static void tokens() {
        Check.says("TOKENS: letters as many as stand together are KEYWORDS (those told for such a TEXT) or none;");
        CountedTwice x = new CountedTwice();
        Check.good(x, 0, "like when ages=1or days=2and book=3;", 1);
        Check.faulty(x, 0, "like when ages=1ordays=2;", 1, 16);
        Check.faulty(x, 0, "likewhen ages=1;", 1, 0);
        Check.faulty(x, 0, "like whenages=1;", 1, 5);
        Check.faulty(x, 0, "like when notages=1;", 1, 10);
        Check.faulty(x, 0, "like when age=1;", 1, 10);
        Check.faulty(x, 0, "like when agess=1;", 1, 10);
        Check.faulty(x, 0, "like when Ages=1;", 1, 10);
        Check.faulty(x, 0, "like when day=1;", 1, 10);
        Check.faulty(x, 2, "home when days=1;", 1, 10);
        Check.says("digits as many as stand together NUMBERS of 1 to 4 digits or none;");
        for (String number : new String[] {"0", "9", "00", "99", "000", "999", "0000", "0001", "9999"}) {
            Check.good(x, 0, "like when " + number + "=1;", 1);
            Check.good(x, 2, "home when 1=" + number + ";", 1);
        }
        for (String number : new String[] {"00000", "00001", "10000", "99999", "000000000", "4294967297"}) {
            CountedTwice y = new CountedTwice();
            Check.faulty(y, 0, "like when " + number + "=1;", 1, 10);
            Check.faulty(y, 2, "home when 1=" + number + ";", 1, 12);
            Check.faulty(y, 0, "like when 1/" + number + "=1;", 1, 12);
        }
        CountedTwice y = new CountedTwice();
        Check.good(y, 0, "like when 1=1or 1=2;", 1);
        Check.faulty(y, 0, "like when 1 2=1;", 1, 12);
        Check.faulty(y, 0, "like when 12 34=1;", 1, 13);
        Check.says("; + - * / ( ) < = > .");
        Check.good(y, 0, "like when(1+2-3*4/5<6)or(1=2)and(3>4);", 1);
        Check.faulty(y, 0, "like when 1<=1;", 1, 12);
        Check.faulty(y, 0, "like when 1.5=1;", 1, 11);
    }

    private static void blanksBetween() {
        Check.says("Blanks (32, 10) between.");
        CountedTwice x = new CountedTwice();
        Check.good(x, 0, "\n like  when\n\n1 + 2 * 3 / 4 - 5 = 6 and ( not 7 < 8 ) ; \n ", 1);
        Check.good(x, 0, " ", 0);
        Check.good(x, 0, "\n", 0);
        Check.good(x, 2, Check.repeat(" \n", 200), 0);
        Check.faulty(x, 0, "li ke when 1=1;", 1, 0);
        Check.faulty(x, 0, "like when 1=1; l", 1, 15);
        for (int sign = 0; sign < 256; sign++) {
            boolean blank = sign == 32 || sign == 10;
            boolean part = sign >= 'a' && sign <= 'z' || sign >= 'A' && sign <= 'Z';
            CountedTwice y = new CountedTwice();
            String all = "like" + (char) sign + "when 1=1;";
            Check.due("sign " + sign + " between", Check.text(y, 0, all), blank ? 1 : -1);
            Check.due("its place", y.fault(1), blank ? -1 : part ? 0 : 4);
            Check.due("sign " + sign + " alone", Check.text(y, 0, String.valueOf((char) sign)), blank ? 0 : -1);
            Check.due("its place", y.fault(1), blank ? -1 : 0);
        }
    }

    private static void firstFault() {
        Check.says("FAULTS, the first by its place, at one place the least: 1 what can't stand there (the end: the text's length).");
        CountedTwice x = new CountedTwice();
        Check.faulty(x, 0, "like when 1/0=1 when like when 1/0=1;", 2, 12);
        Check.faulty(x, 0, "like when when 1/0=1;", 1, 10);
        Check.faulty(x, 0, "like when 1/0" + Check.repeat("(", 20), 2, 12);
        Check.faulty(x, 0, "like when " + Check.repeat("(", 9) + "1/0=1;", 3, 18);
        Check.faulty(x, 0, "like when " + Check.repeat("(", 8) + "1/0=1;", 2, 20);
        Check.faulty(x, 0, "like when " + Check.repeat("(", 8) + ")", 1, 18);
        Check.faulty(x, 0, lines(0, 16) + "x", 1, 224);
        Check.faulty(x, 0, lines(0, 16) + "when", 1, 224);
        Check.faulty(x, 0, lines(0, 16) + "like x", 3, 224);
        Check.faulty(x, 0, lines(0, 15) + "like x", 1, 215);
        Check.faulty(x, 0, lines(0, 15) + "like when 1/0=1;like", 2, 222);
        Check.faulty(x, 0, "like when " + Check.repeat("not ", 8) + "x", 1, 42);
        Check.faulty(x, 0, "like when 1/00000=1;", 1, 12);
        CountedTwice y = new CountedTwice();
        Check.faulty(y, 0, "like", 1, 4);
        Check.faulty(y, 0, "like ", 1, 5);
        Check.faulty(y, 0, Check.repeat(" ", 396) + "like", 1, 400);
        Check.faulty(y, 0, Check.repeat(" ", 395) + "like ", 1, 400);
        Check.faulty(y, 0, Check.repeat(" ", 399) + "?", 1, 399);
        Check.faulty(y, 0, Check.repeat(" ", 398) + "?", 1, 398);
        Check.faulty(y, 0, "?" + Check.repeat(" ", 399), 1, 0);
        Check.good(y, 0, Check.repeat(" ", 386) + "like when 1=1;", 1);
    }

    private static void partsByNothing() {
        Check.says("2 (at the NUMBER) a part by 0.");
        CountedTwice x = new CountedTwice();
        for (String zero : new String[] {"0", "00", "000", "0000"}) {
            Check.faulty(x, 0, "like when 1/" + zero + "=1;", 2, 12);
            Check.faulty(x, 2, "home when hour / " + zero + "=1;", 2, 17);
            Check.faulty(x, 1, "like when 1=ages*" + zero + "/\n" + zero, 2, 19 + zero.length());
        }
        CountedTwice y = new CountedTwice();
        Check.good(y, 0, "like when 1/1=0*0;", 1);
        Check.good(y, 0, "like when 0/1=1/0001;", 1);
        Check.good(y, 0, "like when 0=0-0;", 1);
        Check.faulty(y, 0, "like when 1/1/0=1;", 2, 14);
        Check.faulty(y, 0, "like when 0/0=0;", 2, 12);
        Check.faulty(y, 0, "like when 1/10=1 and 1/0", 2, 23);
    }

    private static void lines() {
        Check.says("3 (at its KEYWORD) the 17th line;");
        for (int k = 0; k < 3; k++) {
            CountedTwice x = new CountedTwice();
            Check.good(x, k, lines(k, 16), 16);
            Check.faulty(x, k, lines(k, 17), 3, 224);
            Check.faulty(x, k, lines(k, 16) + BEGINNINGS[k], 3, 224);
            Check.faulty(x, k, lines(k, 16) + " \n" + BEGINNINGS[k] + " when", 3, 226);
            Check.faulty(x, k, lines(k, 20), 3, 224);
            Check.good(x, k, lines(k, 16) + " \n ", 16);
        }
        CountedTwice x = new CountedTwice();
        Check.faulty(x, 2, lines(2, 16) + "away when 1=1;", 3, 224);
        Check.faulty(x, 2, lines(2, 16) + "like when 1=1;", 1, 224);
        Check.faulty(x, 0, lines(0, 16) + "home when 1=1;", 1, 224);
        Check.good(x, 2, Check.repeat("away when 1=1;", 16), 16);
        // Sixteen lines without a blank more than they need leave room for the seventeenth in 400 bytes.
        Check.good(x, 0, Check.repeat("like when ages<days;", 16), 16);
    }

    private static String opened(String openings, String inner) {
        StringBuilder s = new StringBuilder("like when ");
        int brackets = 0;
        for (char o : openings.toCharArray()) {
            s.append(o == '(' ? "(" : "not ");
            brackets += o == '(' ? 1 : 0;
        }
        return s.append(inner).append(Check.repeat(")", brackets)).append(";").toString();
    }

    private static int lengthOf(String openings) {
        int length = 10;
        for (char o : openings.toCharArray()) {
            length += o == '(' ? 1 : 4;
        }
        return length;
    }

    private static void openings() {
        Check.says("(at it) the 9th ( or not that is open.");
        for (int mix = 0; mix < 512; mix++) {
            char[] nine = new char[9];
            for (int i = 0; i < 9; i++) {
                nine[i] = (mix >> i & 1) == 0 ? '(' : 'n';
            }
            String eight = new String(Arrays.copyOf(nine, 8));
            CountedTwice x = new CountedTwice();
            Check.good(x, 0, opened(eight, "1=1"), 1);
            Check.good(x, 1, opened(eight, "1=1 and 2=2 or 3=3"), 1);
            Check.faulty(x, 0, opened(new String(nine), "1=1"), 3, lengthOf(eight));
            Check.faulty(x, 1, "like when " + opened(eight, "").substring(10, lengthOf(eight)) + (nine[8] == '(' ? "(" : "not"), 3, lengthOf(eight));
        }
    }

    /** What is closed is open no more: a bracket behind its end, a "not" behind its condition. */
    private static void openAndClosed() {
        String seven = Check.repeat("(", 7);
        CountedTwice x = new CountedTwice();
        Check.good(x, 0, opened("(((((((", "(1=1)and(1=1)or not 1=1 and not 1=2"), 1);
        Check.faulty(x, 0, opened("(((((((", "(1=1)and((1=1))"), 3, 26);
        Check.faulty(x, 0, opened("(((((((", "not 1=1 or not(1=1)"), 3, 31);
        Check.good(x, 0, "like when " + Check.repeat("not 1=1 and ", 30) + "1=1;", 1);
        Check.good(x, 0, "like when " + Check.repeat("(1=1)and ", 40) + "1=1;", 1);
        Check.good(x, 0, opened("nnnnnnnn", "1=1 and " + Check.repeat("not ", 8) + "1=1"), 1);
        Check.faulty(x, 0, opened("nnnnnnn(", "1=1 and not 1=1"), 3, 47);
        Check.good(x, 0, opened("nnnnnn(", "1=1 and not 1=1"), 1);
        CountedTwice y = new CountedTwice();
        Check.good(y, 0, "like when " + seven + "(1=1)" + ")))))))and " + seven + "(1=1))))))));", 1);
        Check.good(y, 0, "like when ((((((((1=1))))))));like when ((((((((1=1))))))));", 2);
        Check.good(y, 0, opened("((((((((", "1=1 and 1=1"), 1);
        Check.good(y, 0, "like when not(not 1=1)and not(not(not(not(1=1))));", 1);
    }

    public static void main(String[] args) {
        feed();
        fullTape();
        end();
        text();
        noSuchText();
        staysAsItWas();
        fault();
        grammar();
        tokens();
        blanksBetween();
        firstFault();
        partsByNothing();
        lines();
        openings();
        openAndClosed();
        Check.close("EdgeTextTest");
    }
}
