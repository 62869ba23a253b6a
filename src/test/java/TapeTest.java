/** Promises 7 and 8: feed, end. */
public final class TapeTest {
    private static final int AAAA = 0x61616161;

    private static void feedAndEnd() {
        CountedTwice x = new CountedTwice();
        for (int n = 20; n <= 400; n += 20) {
            Check.due("7: feed", x.feed(AAAA, AAAA, AAAA, AAAA, AAAA), n);
        }
        Check.due("7: more than 400", x.feed(AAAA, AAAA, AAAA, AAAA, AAAA), -1);
        Check.due("8: has not so many", x.end(401), false);
        Check.due("8: below 0", x.end(-1), false);
        Check.due("8: all of them", x.end(400), true);
        Check.due("8: one less", x.end(399), true);
        Check.due("7: would be 419", x.feed(0, 0, 0, 0, 0), -1);
        Check.due("8: not again", x.end(400), false);
        Check.due("8: end", x.end(380), true);
        Check.due("7: 400 again", x.feed(0, 0, 0, 0, 0), 400);
        Check.due("8: all goes", x.end(0), true);
        Check.due("8: none left", x.end(1), false);
        Check.due("8: none is fine", x.end(0), true);
        Check.due("7: odd lengths", x.feed(0, 0, 0, 0, 0), 20);
        Check.due("8: three", x.end(3), true);
        Check.due("7: behind them", x.feed(0, 0, 0, 0, 0), 23);
    }

    private static void highestFirst() {
        CountedTwice x = new CountedTwice();
        x.house(0, 0, 0);
        x.feed(0x61626364, 0x65666768, 0, 0, 0);
        x.end(8);
        Check.due("7: a name", x.entry(0, 0, 0, 0, 0, 0), 0);
        for (int k = 0; k < 8; k++) {
            Check.due("7: letter " + k, x.of(0, 10 + k), k);
        }
        x.feed(0x7a000000, 0, 0, 0, 0);
        x.end(1);
        x.feed(0x79787776, 0, 0, 0, 0);
        x.end(4);
        Check.due("8: what is fed behind the end joins it", x.entry(0, 0, 0, 0, 0, 0), 1);
        Check.due("8: z", x.of(1, 10), 25);
        Check.due("8: y", x.of(1, 11), 24);
        Check.due("8: w", x.of(1, 13), 22);
    }

    private static void emptied() {
        CountedTwice x = new CountedTwice();
        x.house(0, 0, 0);
        Check.tape(x, "like when 1=1;");
        x.text(0);
        Check.due("9: the tape is empty behind a text", x.end(1), false);
        Check.tape(x, "nothing");
        x.text(0);
        Check.due("9: and behind a fault", x.end(1), false);
        Check.tape(x, "like when 1=1;");
        x.text(3);
        Check.due("9: and where there is no such text", x.end(1), false);
        Check.tape(x, "ana");
        x.entry(0, 0, 0, 0, 0, 0);
        Check.due("11: and behind an entry", x.end(1), false);
        Check.tape(x, "ana");
        x.entry(0, 0, 1, 0, 0, 0);
        Check.due("11: and behind one that can't be", x.end(1), false);
    }

    public static void main(String[] args) {
        feedAndEnd();
        highestFirst();
        emptied();
        Check.close("TapeTest");
    }
}
