/** The boundaries of rounds, and of promises 24 and 25, sentence by sentence. */
public final class EdgeRoundTest {
    /** Houses 0 and 1 are 100 apart, house 2 stands where house 1 does, house 3 in another street. */
    private static CountedTwice town(int pace, int sit) {
        CountedTwice x = new CountedTwice();
        x.house(0, 0, 0);
        x.house(0, 100, 1);
        x.house(0, 100, 2);
        x.house(1, 0, 3);
        x.set(0, pace);
        x.set(1, sit);
        return x;
    }

    /** Steps told as house and minute; the first wrong one, and how many houses are seen ahead of it. */
    private static void round(CountedTwice x, int day, int wrong, int seen, int... housesAndMinutes) {
        for (int i = 0; i < housesAndMinutes.length / 2; i++) {
            Check.due("step " + i, x.step(i, housesAndMinutes[2 * i], housesAndMinutes[2 * i + 1]), i + 1);
        }
        Check.due("the first wrong one", x.round(day, 0), wrong);
        Check.due("seen", x.round(day, 1), seen);
    }

    private static void times() {
        Check.says("A ROUND: up to 24 STEPS, each a HOUSE and a MINUTE, on a told DAY: STEP 0 is right, if somebody is at HOME then; "
                + "each other one, if that is so and its MINUTE is not less than that of the one ahead and MINUTES of the WAY between: "
                + "the first one that is wrong;");
        // A hundred apart at pace 20 and 3 to sit are 23 minutes.
        round(town(20, 3), 0, -1, 2, 0, 100, 1, 123);
        round(town(20, 3), 0, 1, 1, 0, 100, 1, 122);
        round(town(20, 3), 0, 1, 1, 0, 100, 1, 100);
        round(town(20, 3), 0, 1, 1, 0, 100, 1, 0);
        round(town(20, 3), 0, -1, 2, 0, 0, 1, 23);
        round(town(20, 3), 0, -1, 2, 0, 1416, 1, 1439);
        round(town(20, 3), 0, 1, 1, 0, 1417, 1, 1439);
        round(town(20, 3), 0, -1, 1, 0, 100, 0, 103);
        round(town(20, 3), 0, 1, 1, 0, 100, 0, 102);
        round(town(20, 3), 0, -1, 2, 1, 100, 2, 103);
        round(town(20, 3), 0, 1, 1, 1, 100, 2, 102);
        round(town(20, 3), 0, -1, 2, 0, 100, 3, 123);
        round(town(20, 3), 0, 1, 1, 0, 100, 3, 122);
        round(town(20, 0), 0, -1, 1, 0, 100, 0, 100);
        round(town(20, 0), 0, 1, 1, 0, 100, 0, 99);
        round(town(0, 0), 0, -1, 2, 0, 1439, 3, 1439);
        round(town(0, 0), 0, 1, 1, 0, 1439, 3, 1438);
        round(town(0, 1), 0, 1, 1, 0, 1439, 3, 1439);
        round(town(0, 0), 0, -1, 1, 0, 0);
        round(town(99, 99), 0, -1, 1, 0, 0);
        round(town(99, 99), 0, -1, 1, 3, 1439);
        round(town(20, 3), 0, 2, 2, 0, 100, 1, 123, 0, 145);
        round(town(20, 3), 0, -1, 2, 0, 100, 1, 123, 0, 146);
        round(town(20, 3), 0, 1, 1, 0, 100, 1, 122, 1, 1439);
        round(town(20, 3), 0, -1, 0);
    }

    private static void homes() {
        for (int away = 0; away < 3; away++) {
            CountedTwice x = town(0, 0);
            Check.text(x, 2, "away when kind=" + away + " and hour=10 and day=7;");
            round(x, 7, away, away, 0, 600, 1, 600, 2, 659);
            Check.due("another day", x.round(6, 0), -1);
            Check.due("another day", x.round(8, 1), 3);
            x = town(0, 0);
            Check.text(x, 2, "away when kind=" + away + " and hour=10 and day=7;");
            round(x, 7, -1, 3, 0, 660, 1, 660, 2, 660);
            x = town(0, 0);
            Check.text(x, 2, "away when kind=" + away + " and hour=10 and day=7;");
            round(x, 7, -1, 3, 0, 599, 1, 599, 2, 599);
        }
        CountedTwice x = town(20, 3);
        Check.text(x, 2, "away when kind=1;");
        round(x, 0, 1, 1, 0, 100, 1, 100, 2, 0);
    }

    private static void seen() {
        Check.says("SEEN: how many unlike HOUSES the STEPS ahead of it have.");
        round(town(0, 0), 0, -1, 1, 0, 0, 0, 0, 0, 0);
        round(town(0, 0), 0, -1, 2, 0, 0, 1, 0, 0, 0, 1, 0);
        round(town(0, 0), 0, -1, 2, 1, 0, 2, 0);
        round(town(0, 0), 0, 3, 2, 1, 5, 2, 5, 1, 5, 3, 4);
        round(town(0, 0), 0, 3, 3, 1, 5, 2, 5, 0, 5, 3, 4);
        round(town(0, 0), 0, 2, 1, 1, 5, 1, 5, 0, 4, 3, 6);
        CountedTwice x = Check.houses(60);
        x.set(0, 0);
        x.set(1, 0);
        for (int i = 0; i < 24; i++) {
            x.step(i, 59 - i, i);
            Check.due("unlike houses", x.round(99, 1), i + 1);
        }
        Check.due("all right", x.round(99, 0), -1);
        x.step(23, 36, 21);
        Check.due("the last one is wrong", x.round(99, 0), 23);
        Check.due("seen ahead of it", x.round(99, 1), 23);
    }

    private static CountedTwice steps(int many) {
        CountedTwice x = town(0, 0);
        for (int i = 0; i < many; i++) {
            x.step(i, i % 4, 10 * i);
        }
        return x;
    }

    private static void step() {
        Check.says("STEP i of the ROUND (i 0 .. how many there are, 23 at most; what stood there and behind goes; MINUTE 0 .. 1439): "
                + "how many there are then; NONE if one can't be.");
        for (int many : new int[] {0, 1, 2, 22, 23, 24}) {
            CountedTwice x = steps(many);
            int last = Math.min(many, 23);
            Check.due("steps", x.look(7), many);
            Check.refused("i of " + many, 0, last, v -> x.step(v, 0, 0), -1);
            Check.refused("house", 0, 3, v -> x.step(last, v, 0), -1);
            Check.refused("minute", 0, 1439, v -> x.step(last, 0, v), -1);
            Check.refused("house ahead", 0, 3, v -> x.step(0, v, 0), -1);
            Check.refused("minute ahead", 0, 1439, v -> x.step(0, 0, v), -1);
            Check.due("still so many", x.look(7), many);
            Check.due("as they were", x.round(0, 1), Math.min(many, 4));
            Check.due("the last place", x.step(last, 3, 1439), last + 1);
            Check.due("the first place", x.step(0, 3, 0), 1);
            Check.due("all behind it went", x.look(7), 1);
            Check.due("not behind the next", x.step(2, 3, 0), -1);
        }
        for (int i = 0; i < 24; i++) {
            CountedTwice x = steps(24);
            Check.due("step " + i + " anew", x.step(i, 0, 10 * i), i + 1);
            Check.due("what stood behind goes", x.look(7), i + 1);
            Check.due("none is wrong", x.round(0, 0), -1);
            Check.due("the next one", x.step(i + 1, 1, 0), i == 23 ? -1 : i + 2);
            Check.due("is wrong, if its minute is less", x.round(0, 0), i == 23 || i == 0 ? -1 : i + 1);
        }
    }

    private static void day() {
        Check.says("The ROUND on a DAY what 0 the first wrong STEP (NONE), 1 SEEN. NONE if one can't be, or another what.");
        CountedTwice x = town(0, 0);
        Check.text(x, 2, "away when day=0 and kind=0; away when day=99 and kind=1;");
        x.step(0, 0, 0);
        x.step(1, 1, 0);
        int[][] days = {{0, 0, 0}, {1, -1, 2}, {98, -1, 2}, {99, 1, 1}};
        for (int[] d : days) {
            Check.due("wrong on " + d[0], x.round(d[0], 0), d[1]);
            Check.due("seen on " + d[0], x.round(d[0], 1), d[2]);
            Check.refused("another what", 0, 1, v -> x.round(d[0], v), -1);
        }
        Check.refused("day", 0, 99, v -> x.round(v, 0), -1);
        Check.refused("day", 0, 99, v -> x.round(v, 1), -1);
    }

    public static void main(String[] args) {
        times();
        homes();
        seen();
        step();
        day();
        Check.close("EdgeRoundTest");
    }
}
