/** Promises 24 and 25: step, round. */
public final class RoundTest {
    private static void steps() {
        CountedTwice x = new CountedTwice();
        Check.due("24: no house", x.step(0, 0, 0), -1);
        x.house(0, 0, 0);
        x.house(0, 0, 0);
        Check.due("25: no steps, none wrong", x.round(0, 0), -1);
        Check.due("25: no steps, none seen", x.round(0, 1), 0);
        Check.due("24: not behind the next", x.step(1, 0, 0), -1);
        for (int i = 0; i < 24; i++) {
            Check.due("24: step " + i, x.step(i, i % 2, 60 * i), i + 1);
        }
        Check.due("24: 24 is too far", x.step(24, 0, 0), -1);
        Check.due("24: -1", x.step(-1, 0, 0), -1);
        Check.due("24: no such house", x.step(0, 2, 0), -1);
        Check.due("24: no such house", x.step(0, -1, 0), -1);
        Check.due("24: minute 1440", x.step(0, 0, 1440), -1);
        Check.due("24: minute -1", x.step(0, 0, -1), -1);
        Check.due("24: all stand", x.look(7), 24);
        Check.due("25: all right", x.round(99, 0), -1);
        Check.due("25: two houses", x.round(99, 1), 2);
        Check.due("24: the last one anew", x.step(23, 0, 1439), 24);
        Check.due("24: what stood behind goes", x.step(3, 1, 1439), 4);
        Check.due("24: steps", x.look(7), 4);
        Check.due("24: nothing behind", x.step(5, 0, 0), -1);
        Check.due("24: one alone", x.step(0, 1, 5), 1);
        Check.due("25: one", x.round(0, 1), 1);
        Check.due("25: day 100", x.round(100, 0), -1);
        Check.due("25: day -1", x.round(-1, 1), -1);
        Check.due("25: another what", x.round(0, 2), -1);
        Check.due("25: another what", x.round(0, -1), -1);
    }

    /** 100 numbers take 2 minutes, and 5 to sit. */
    private static void wrongOnes() {
        CountedTwice x = new CountedTwice();
        x.house(0, 0, 0);
        x.house(0, 100, 1);
        x.house(1, 0, 2);
        x.step(0, 0, 100);
        x.step(1, 1, 106);
        Check.due("25: 6 minutes are less than 7", x.round(0, 0), 1);
        Check.due("25: one was seen", x.round(0, 1), 1);
        x.step(1, 1, 107);
        Check.due("25: 7 are enough", x.round(0, 0), -1);
        x.step(2, 1, 111);
        Check.due("25: sitting in the same house takes time too", x.round(0, 0), 2);
        Check.due("25: two were seen", x.round(0, 1), 2);
        x.step(2, 1, 112);
        x.step(3, 0, 119);
        Check.due("25: none is wrong", x.round(0, 0), -1);
        Check.due("25: houses seen twice count once", x.round(0, 1), 2);
        x.step(4, 2, 118);
        x.step(5, 2, 1439);
        Check.due("25: back in time", x.round(0, 0), 4);
        Check.due("25: none behind it is seen", x.round(0, 1), 2);
        x.set(1, 0);
        Check.due("25: still back in time", x.round(0, 0), 4);
        x.step(4, 2, 121);
        Check.due("25: right", x.round(0, 0), -1);
        Check.due("25: three", x.round(0, 1), 3);
        x.gap(0, 1, 200);
        Check.due("25: the gap is wider", x.round(0, 0), 4);
    }

    private static void homes() {
        CountedTwice x = new CountedTwice();
        x.house(0, 0, 0);
        x.house(0, 0, 1);
        x.step(0, 0, 60);
        x.step(1, 1, 120);
        x.step(2, 0, 180);
        Check.text(x, 2, "away when day=1 and hour=1; away when day=2 and kind=1; away when day=3 and hour>2;");
        Check.due("25: step 0 alone asks for home", x.round(1, 0), 0);
        Check.due("25: nothing seen", x.round(1, 1), 0);
        Check.due("25: the second one is away", x.round(2, 0), 1);
        Check.due("25: one seen", x.round(2, 1), 1);
        Check.due("25: the third one is away", x.round(3, 0), 2);
        Check.due("25: two seen", x.round(3, 1), 2);
        Check.due("25: a good day", x.round(4, 0), -1);
        Check.due("25: two seen", x.round(4, 1), 2);
    }

    public static void main(String[] args) {
        steps();
        wrongOnes();
        homes();
        Check.close("RoundTest");
    }
}
