import java.util.ArrayList;
import java.util.List;

/** Promise 31: lots; and the draws of promise 2. */
public final class LotsTest {
    private static void asTheDocumentTells(int state, int houses, int k) {
        CountedTwice x = new CountedTwice();
        List<Integer> left = new ArrayList<>();
        for (int h = 0; h < houses; h++) {
            x.house(0, h, 0);
            left.add(h);
        }
        x.state(state);
        long set = 0;
        int s = state;
        for (int i = 0; i < k; i++) {
            s = s * 1664525 + 1013904223;
            int house = left.remove((s >>> 8) % left.size());
            set |= 1L << house;
        }
        Check.due("31: " + k + " of " + houses + " from " + state, x.lots(k), set);
        Check.due("31: the state then", x.look(8), s);
    }

    private static void edges() {
        CountedTwice x = new CountedTwice();
        Check.due("31: none of none", x.lots(0), 0);
        Check.due("31: one of none", x.lots(1), -1);
        for (int h = 0; h < 4; h++) {
            x.house(0, h, 0);
        }
        Check.due("31: more than there are", x.lots(5), -1);
        Check.due("31: below 0", x.lots(-1), -1);
        Check.due("31: nothing was drawn", x.look(8), 0);
        Check.due("31: all", x.lots(4), 15);
        Check.entry(x, "x", 1, 0, 2, 0, 0, 0);
        Check.due("31: more than are missed", x.lots(4), -1);
        Check.due("31: all that are missed", x.lots(3), 11);
        x.view(0);
        Check.due("31: all as known then", x.lots(4), 15);
    }

    public static void main(String[] args) {
        int[] states = {0, 1, -1, 54803634, 633097286, Integer.MIN_VALUE, Integer.MAX_VALUE, -123456789};
        for (int state : states) {
            asTheDocumentTells(state, 7, 3);
            asTheDocumentTells(state, 60, 60);
            asTheDocumentTells(state, 60, 25);
            asTheDocumentTells(state, 1, 1);
            asTheDocumentTells(state, 5, 0);
        }
        edges();
        Check.close("LotsTest");
    }
}
