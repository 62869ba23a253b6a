/** Promise 32: image. */
public final class ImageTest {
    private static CountedTwice told() {
        CountedTwice x = new CountedTwice();
        x.state(99);
        x.house(0, 0, 0);
        x.house(1, 10, 0);
        x.gap(0, 1, 30);
        x.set(0, 50);
        x.set(1, 7);
        Check.text(x, 0, "like when letters=0;");
        Check.text(x, 1, "like when letters=1;");
        Check.text(x, 2, "away when hour=1;");
        Check.entry(x, "ana", 0, 0, 0, 0, 60, 5);
        Check.entry(x, "ana", 1, 0, 1, 0, 60, 5);
        Check.entry(x, "bna", 1, 0, 1, 0, 60, 5);
        x.voids(2);
        x.view(3);
        x.step(0, 0, 60);
        x.step(1, 1, 600);
        x.last(0, 0, 0);
        x.last(1, 0, 4);
        x.last(2, 0, 2);
        x.last(3, 0, 2);
        x.closed(0, 1, true);
        x.plan(0, 0, 0);
        return x;
    }

    private static void stands(CountedTwice x, String when) {
        Check.due("32: houses " + when, x.look(0), 2);
        Check.due("32: entries " + when, x.look(1), 3);
        Check.due("32: time " + when, x.look(3), 4);
        Check.due("32: view " + when, x.look(4), 3);
        Check.due("32: persons " + when, x.look(5), 2);
        Check.due("32: steps " + when, x.look(7), 2);
        Check.due("32: state " + when, x.look(8), 99);
        Check.due("32: slot " + when, x.look(30), 0);
        Check.due("32: strength " + when, x.look(40), 4);
        Check.due("32: days " + when, x.look(50), 2);
        Check.due("32: counters " + when, x.look(51), 2);
        Check.due("32: gap " + when, x.way(0, 1, 0), 40);
        Check.due("32: pace and sit " + when, x.way(0, 1, 1), 27);
        Check.due("32: same " + when, x.alike(0, 1, 0), 1);
        Check.due("32: maybe " + when, x.alike(0, 2, 1), 1);
        Check.due("32: home " + when, x.home(0, 0, 60), 0);
        Check.due("32: round " + when, x.round(0, 0), 0);
        Check.due("32: name " + when, x.of(2, 10), 1);
        Check.due("32: house " + when, x.of(2, 2), 1);
        Check.due("32: person " + when, x.person(0, 0), 2);
        Check.due("32: ends " + when, x.ends(0), 2);
        Check.due("32: missed " + when, x.look(6), 0);
        Check.due("32: void " + when, x.voids(2), false);
        Check.due("32: plan " + when, x.planned(), 0);
    }

    private static void change(CountedTwice x) {
        x.state(5);
        x.house(2, 0, 0);
        x.gap(0, 1, 31);
        x.set(0, 90);
        x.set(1, 8);
        Check.text(x, 0, "");
        Check.text(x, 1, "like when letters=0;");
        Check.text(x, 2, "");
        Check.entry(x, "carl", 0, 0, 0, 0, 0, 0);
        x.voids(0);
        x.view(-1);
        x.step(0, 1, 0);
        x.last(0, 0, 1);
        x.last(1, 0, 5);
        x.last(2, 0, 3);
        x.last(3, 0, 3);
        x.closed(0, 1, false);
        x.plan(0, 0, -1);
    }

    private static void goneBackTo() {
        CountedTwice x = told();
        stands(x, "as told");
        Check.due("32: there is none", x.image(false), false);
        stands(x, "still");
        Check.due("32: taken", x.image(true), true);
        stands(x, "behind taking it");
        change(x);
        Check.due("32: gone back to", x.image(false), true);
        stands(x, "gone back to");
        change(x);
        Check.due("32: more than once", x.image(false), true);
        stands(x, "gone back to again");
        Check.entry(x, "eva", 0, 0, 0, 0, 0, 0);
        Check.due("32: numbers go on from it", x.look(1), 4);
        Check.due("32: another name in the same place", x.of(3, 10), 4);
        Check.due("32: taken anew", x.image(true), true);
        change(x);
        x.image(false);
        Check.due("32: the later one", x.look(1), 4);
        Check.due("32: its time", x.look(3), 5);
    }

    /** The pairs that were compared ahead of going back are of other entries then. */
    private static void namesAreComparedAnew() {
        CountedTwice x = new CountedTwice();
        x.house(0, 0, 0);
        Check.text(x, 0, "like when letters=0;");
        Check.text(x, 1, "like when letters=1;");
        Check.entry(x, "ana", 0, 0, 0, 0, 0, 0);
        x.image(true);
        Check.entry(x, "ana", 1, 0, 0, 0, 0, 0);
        Check.due("32: same", x.alike(0, 1, 0), 1);
        Check.due("32: one person", x.look(5), 1);
        x.image(false);
        Check.due("32: the persons of then", x.look(5), 1);
        Check.due("32: with one entry", x.person(0, 0), 1);
        Check.due("32: gone", x.alike(0, 1, 0), -1);
        Check.entry(x, "ann", 1, 0, 0, 0, 0, 0);
        Check.due("32: not the same", x.alike(0, 1, 0), 0);
        Check.due("32: maybe", x.alike(0, 1, 1), 1);
        Check.due("32: two persons", x.look(5), 2);
        Check.due("32: or one", x.ends(0), 1);
    }

    private static void voidsComeBack() {
        CountedTwice x = new CountedTwice();
        x.house(0, 0, 0);
        Check.entry(x, "ana", 0, 0, 0, 0, 0, 0);
        x.image(true);
        x.voids(0);
        Check.due("32: void", x.look(5), 0);
        x.image(false);
        Check.due("32: known again", x.of(0, 7), 1);
        Check.due("32: a person again", x.look(5), 1);
        Check.due("32: void once more", x.voids(0), true);
    }

    private static void roundComesBack() {
        CountedTwice x = new CountedTwice();
        x.house(10, 0, 3);
        x.house(11, 0, 4);
        x.gap(10, 11, 500);
        Check.text(x, 2, "away when kind=4;");
        x.step(0, 0, 100);
        x.step(1, 0, 200);
        x.image(true);
        Check.due("32: none is wrong", x.round(0, 0), -1);
        x.step(0, 1, 100);
        x.step(1, 0, 104);
        x.gap(11, 10, 7);
        Check.due("32: the first is wrong", x.round(0, 0), 0);
        x.image(false);
        Check.due("32: none is wrong again", x.round(0, 0), -1);
        Check.due("32: one house is seen", x.round(0, 1), 1);
        Check.due("32: the gap is back", x.way(0, 1, 0), 500);
    }

    private static void planAndClosed() {
        CountedTwice x = new CountedTwice();
        for (int h = 0; h < 5; h++) {
            x.house(0, h, 0);
        }
        x.last(0, 0, 0);
        x.last(1, 0, 2);
        x.last(2, 0, 2);
        x.plan(0, 0, 0);
        x.plan(0, 1, 0);
        x.closed(0, 1, true);
        x.image(true);
        Check.due("32: planned", x.planned(), 2);
        x.closed(0, 1, false);
        Check.due("32: opened", x.planned(), 4);
        x.image(false);
        Check.due("32: closed again", x.planned(), 2);
        x.plan(0, 0, -1);
        Check.due("32: stays", x.planned(), 0);
        x.image(false);
        Check.due("32: goes again", x.planned(), 2);
        Check.due("32: best", x.best(), 2);
        x.last(0, 0, -1);
        x.last(0, 4, 0);
        x.last(1, 5, 3);
        x.last(2, 0, 4);
        x.last(3, 0, 6);
        x.plan(5, 3, 4);
        x.closed(4, 2, true);
        x.image(true);
        Check.due("32: planned", x.planned(), 3);
        x.closed(4, 3, true);
        Check.due("32: closed", x.planned(), 0);
        x.image(false);
        Check.due("32: open again", x.planned(), 3);
        x.plan(5, 3, -1);
        x.image(false);
        Check.due("32: goes again", x.planned(), 3);
    }

    private static void notTheTapeNorTheFault() {
        CountedTwice x = new CountedTwice();
        Check.tape(x, "abc");
        Check.due("32: taken with three on the tape", x.image(true), true);
        x.feed(0, 0, 0, 0, 0);
        x.image(false);
        Check.due("32: the tape stays as it is", x.end(23), true);
        x.end(0);
        Check.faulty(x, 0, "like", 1, 4);
        x.image(false);
        Check.due("32: the fault stays", x.fault(0), 1);
        Check.due("32: and its place", x.fault(1), 4);
        x.image(true);
        Check.good(x, 0, "", 0);
        x.image(false);
        Check.due("32: the fault is not in the image", x.fault(0), 0);
    }

    public static void main(String[] args) {
        goneBackTo();
        namesAreComparedAnew();
        voidsComeBack();
        roundComesBack();
        planAndClosed();
        notTheTapeNorTheFault();
        Check.close("ImageTest");
    }
}
