/** Promises 21 and 23: counter, suspect. */
public final class CounterTest {
    private static CountedTwice town() {
        CountedTwice x = new CountedTwice();
        x.house(0, 0, 0);
        x.house(0, 50, 1);
        x.house(0, 100, 2);
        x.set(0, 20);
        x.set(1, 0);
        return x;
    }

    private static void entriesAndGhosts() {
        CountedTwice x = town();
        x.set(0, 0);
        Check.text(x, 2, "away when kind=1 and hour<12 and day=3;");
        Check.entry(x, "a", 0, 2, 1, 3, 719, 0);
        Check.entry(x, "a", 0, 2, 1, 3, 720, 0);
        Check.entry(x, "a", 0, 2, 1, 4, 719, 0);
        Check.entry(x, "a", 0, 2, 0, 3, 719, 0);
        Check.entry(x, "a", 1, 2, 1, 3, 719, 0);
        Check.entry(x, "a", 0, 3, 1, 3, 0, 0);
        Check.due("21: in count 0", x.counter(2, 0), 4);
        Check.due("21: in count 1", x.counter(2, 1), 1);
        Check.due("21: ghosts", x.counter(2, 2), 1);
        Check.due("21: ghosts of another", x.counter(3, 2), 1);
        Check.due("21: nobody's", x.counter(10, 0), 0);
        Check.due("21: nobody's ghosts", x.counter(10, 2), 0);
        Check.due("23: of several the least", x.suspect(), 2);
        x.voids(0);
        Check.due("21: a void one is no ghost", x.counter(2, 2), 0);
        Check.due("21: nor an entry", x.counter(2, 0), 3);
        Check.due("23: the other one", x.suspect(), 3);
        x.view(5);
        Check.due("21: as known then", x.counter(2, 2), 1);
        Check.due("23: as known then", x.suspect(), 2);
        x.view(0);
        Check.due("23: without any", x.suspect(), -1);
        x.view(-1);
        Check.text(x, 2, "");
        Check.due("23: all were at home", x.suspect(), -1);
        Check.due("21: no counter", x.counter(11, 0), -1);
        Check.due("21: no counter", x.counter(-1, 0), -1);
        Check.due("21: another what", x.counter(0, 6), -1);
        Check.due("21: another what", x.counter(0, -1), -1);
    }

    /** 50 numbers take 10 minutes. */
    private static void quick() {
        CountedTwice x = town();
        Check.entry(x, "a", 0, 1, 1, 5, 609, 0);
        Check.entry(x, "a", 0, 1, 0, 5, 600, 0);
        Check.due("21: 9 minutes are less than 10", x.counter(1, 3), 1);
        Check.entry(x, "a", 0, 1, 2, 5, 619, 0);
        Check.due("21: 10 minutes are enough", x.counter(1, 3), 1);
        Check.entry(x, "a", 0, 1, 2, 5, 619, 0);
        Check.due("21: the same house is never quick", x.counter(1, 3), 1);
        Check.entry(x, "a", 0, 1, 0, 6, 0, 0);
        Check.entry(x, "a", 0, 1, 2, 4, 1439, 0);
        Check.due("21: another day is never quick", x.counter(1, 3), 1);
        Check.entry(x, "a", 1, 1, 0, 5, 618, 0);
        Check.entry(x, "a", 0, 0, 0, 5, 618, 0);
        Check.due("21: other books aren't asked", x.counter(1, 3), 1);
        Check.due("21: nor asked here", x.counter(1, 4), 0);
        Check.entry(x, "a", 1, 1, 1, 5, 620, 0);
        Check.due("21: in count 1", x.counter(1, 4), 1);
        Check.due("23: quick ones of count 0", x.suspect(), 1);
        x.set(1, 1);
        Check.due("21: with a minute to sit", x.counter(1, 3), 2);
        x.set(0, 0);
        x.set(1, 0);
        Check.due("21: who needs no time", x.counter(1, 3), 0);
        Check.due("23: count 1 isn't asked", x.suspect(), -1);
    }

    private static void byDay() {
        CountedTwice x = town();
        Check.entry(x, "a", 0, 4, 0, 1, 600, 0);
        Check.entry(x, "a", 0, 4, 0, 2, 599, 0);
        Check.entry(x, "a", 0, 4, 1, 1, 601, 0);
        Check.due("21: the day comes ahead of the minute", x.counter(4, 3), 1);
        Check.entry(x, "a", 0, 4, 1, 2, 598, 0);
        Check.due("21: and the minute ahead of the number", x.counter(4, 3), 2);
        Check.entry(x, "a", 0, 4, 1, 99, 1439, 0);
        Check.entry(x, "a", 0, 4, 2, 99, 1439, 0);
        Check.due("21: the last minute of all", x.counter(4, 3), 3);
    }

    /** At one minute the number of the entry says what is just ahead. */
    private static void byNumber() {
        CountedTwice x = town();
        Check.entry(x, "a", 0, 0, 0, 1, 100, 0);
        Check.entry(x, "a", 0, 0, 1, 1, 100, 0);
        Check.entry(x, "a", 0, 0, 1, 1, 100, 0);
        Check.due("21: 0, 1, 1: one change of house", x.counter(0, 3), 1);
        Check.entry(x, "a", 0, 0, 0, 1, 100, 0);
        Check.due("21: and back", x.counter(0, 3), 2);
        x.voids(1);
        x.voids(2);
        Check.due("21: void ones aren't ahead", x.counter(0, 3), 0);
        x.view(3);
        Check.due("21: as known then", x.counter(0, 3), 1);
        Check.due("23: counter 0", x.suspect(), 0);
        x = town();
        Check.entry(x, "a", 0, 10, 0, 1, 95, 0);
        Check.entry(x, "a", 0, 10, 0, 1, 100, 0);
        Check.entry(x, "a", 0, 10, 1, 1, 100, 0);
        Check.due("21: 0, 0, 1 and not 0, 1, 0", x.counter(10, 3), 1);
        Check.due("23: counter 10", x.suspect(), 10);
    }

    private static void together() {
        CountedTwice x = town();
        Check.text(x, 2, "away when kind=2;");
        Check.entry(x, "a", 0, 7, 0, 0, 0, 0);
        Check.entry(x, "a", 0, 7, 2, 0, 1, 0);
        Check.entry(x, "a", 0, 6, 2, 0, 0, 0);
        Check.due("21: a ghost", x.counter(7, 2), 1);
        Check.due("21: that is quick too", x.counter(7, 3), 1);
        Check.due("23: both together are two", x.suspect(), 7);
        Check.entry(x, "a", 0, 6, 2, 0, 0, 0);
        Check.due("23: two for the lesser one", x.suspect(), 6);
        Check.entry(x, "a", 1, 9, 2, 0, 0, 0);
        Check.entry(x, "a", 1, 9, 2, 0, 0, 0);
        Check.entry(x, "a", 1, 9, 2, 0, 0, 0);
        Check.due("21: ghosts are of count 0 alone", x.counter(9, 2), 0);
        Check.due("23: count 1 isn't asked", x.suspect(), 6);
    }

    public static void main(String[] args) {
        entriesAndGhosts();
        quick();
        byDay();
        byNumber();
        together();
        Check.close("CounterTest");
    }
}
