/** Promise 33: look. */
public final class LookTest {
    private static void rows() {
        CountedTwice x = new CountedTwice();
        for (int h = 0; h < 24; h++) {
            x.house(h < 12 ? h : 11, h, 0);
        }
        for (int s = 0; s < 12; s++) {
            Check.due("33: missed of street " + s, x.look(10 + s), s == 11 ? 13 : 1);
        }
        Check.entry(x, "a", 0, 0, 11, 0, 0, 0);
        Check.entry(x, "a", 1, 0, 11, 0, 0, 0);
        Check.entry(x, "a", 1, 0, 0, 0, 0, 0);
        Check.due("33: street 11", x.look(21), 12);
        Check.due("33: street 0", x.look(10), 0);
        Check.due("33: missed", x.look(6), 22);
        x.voids(0);
        Check.due("33: another entry is there still", x.look(21), 12);
        x.voids(1);
        Check.due("33: missed again", x.look(21), 13);
        Check.due("33: houses", x.look(0), 24);
        Check.due("33: entries told", x.look(1), 3);
        Check.due("33: known", x.look(2), 1);
        Check.due("33: time", x.look(3), 5);
        Check.due("33: view", x.look(4), -1);
        Check.due("33: persons", x.look(5), 1);
        x.view(2);
        Check.due("33: view", x.look(4), 2);
        Check.due("33: known then", x.look(2), 2);
        Check.due("33: told all the same", x.look(1), 3);
        Check.due("33: time all the same", x.look(3), 5);
        Check.due("33: persons then", x.look(5), 2);
        Check.due("33: missed then", x.look(6), 23);
        Check.due("33: of street 11 then", x.look(21), 12);
    }

    private static void nothingElse() {
        CountedTwice x = new CountedTwice();
        x.house(0, 0, 0);
        x.step(0, 0, 0);
        x.state(12345);
        Check.due("33: steps", x.look(7), 1);
        Check.due("33: state", x.look(8), 12345);
        int[] others = {-1, 9, 22, 29, 35, 39, 46, 49, 52, 100, Integer.MAX_VALUE, Integer.MIN_VALUE};
        for (int what : others) {
            Check.due("33: look(" + what + ")", x.look(what), -1);
        }
    }

    public static void main(String[] args) {
        rows();
        nothingElse();
        Check.close("LookTest");
    }
}
