import java.nio.charset.StandardCharsets;

/** What the tests have in common: answers that are due, texts put on the tape, and short ways to tell things. */
final class Check {
    private static int asked = 0;
    private static int wrong = 0;
    private static String sentence = "";

    private Check() {
    }

    static void due(String call, long got, long want) {
        asked++;
        if (got != want) {
            wrong++;
            if (wrong <= 50) {
                System.out.println(call + " answered " + got + ", due is " + want + sentence);
            }
        }
    }

    /** The words of the document that the next answers are about: SentenceTest finds them there, and misses none. */
    static void says(String words) {
        sentence = " [" + words + "]";
    }

    /** A call with one argument left open. */
    interface Ask {
        long at(int v);
    }

    /** What can't be where low .. high can: the nearest on both sides, the ends of int, and what a narrower type takes for good. */
    static int[] outside(int low, int high) {
        return new int[] {low - 1, high + 1, Integer.MIN_VALUE, Integer.MAX_VALUE, low - 256, high + 256, low + 65536,
            low - 65536, low + (1 << 30), Integer.MIN_VALUE + high};
    }

    /** Asks for each argument outside low .. high. */
    static void refused(String call, int low, int high, Ask ask, long want) {
        for (int v : outside(low, high)) {
            due(call + " with " + v, ask.at(v), want);
        }
    }

    static long bit(boolean is) {
        return is ? 1L : 0L;
    }

    static String repeat(String s, int n) {
        return s.repeat(n);
    }

    /** So many houses in one street, all missed. */
    static CountedTwice houses(int n) {
        CountedTwice x = new CountedTwice();
        for (int h = 0; h < n; h++) {
            x.house(0, h, 0);
        }
        return x;
    }

    static void due(String call, boolean got, boolean want) {
        due(call, got ? 1L : 0L, want ? 1L : 0L);
    }

    static void isSo(String what, boolean is) {
        due(what, is, true);
    }

    /** The last line of a test's main. */
    static void close(String name) {
        System.out.println(name + ": " + asked + " answers, " + wrong + " wrong");
        if (wrong != 0 || asked == 0) {
            System.exit(1);
        }
    }

    static boolean hasWrong() {
        return wrong != 0;
    }

    static void tape(CountedTwice x, String text) {
        tape(x, text.getBytes(StandardCharsets.ISO_8859_1));
    }

    /** For a tape that is empty, as it is behind a text or an entry: each call counts among the 512. */
    static void tape(CountedTwice x, byte[] bytes) {
        for (int at = 0; at < bytes.length; at += 20) {
            x.feed(word(bytes, at), word(bytes, at + 4), word(bytes, at + 8), word(bytes, at + 12), word(bytes, at + 16));
        }
        if (bytes.length % 20 != 0) {
            x.end(bytes.length);
        }
    }

    static int word(byte[] bytes, int at) {
        int word = 0;
        for (int i = at; i < at + 4; i++) {
            word = word << 8 | (i < bytes.length ? bytes[i] & 255 : 32);
        }
        return word;
    }

    static int text(CountedTwice x, int k, String text) {
        tape(x, text);
        return x.text(k);
    }

    static int entry(CountedTwice x, String name, int count, int counter, int house, int day, int minute, int age) {
        tape(x, name);
        return x.entry(count, counter, house, day, minute, age);
    }

    /** Says a text and looks at the fault it has, and at its place. */
    static void faulty(CountedTwice x, int k, String text, int fault, int place) {
        due("text(" + k + ") of '" + text + "'", text(x, k, text), -1);
        due("fault(0) of '" + text + "'", x.fault(0), fault);
        due("fault(1) of '" + text + "'", x.fault(1), place);
    }

    static void good(CountedTwice x, int k, String text, int lines) {
        due("text(" + k + ") of '" + text + "'", text(x, k, text), lines);
        due("fault(0) of '" + text + "'", x.fault(0), 0);
        due("fault(1) of '" + text + "'", x.fault(1), -1);
    }
}
