import java.util.ArrayList;
import java.util.List;

/**
 * A call that is refused, or that only asks, leaves all that other calls show as it was: an object that had it and a twin
 * that had not are asked everything. Where the document lets a refused call do something (the tape is empty behind it,
 * fault() tells of it), the twin is told just that instead.
 */
public final class RefusedTest {
    private static final int CALLS_MOST = 512;
    private static final int SPARE = 30;

    interface Call {
        long on(CountedTwice x);
    }

    private static final class Named {
        final String name;
        final Call call;
        final long due;
        final Call instead;

        Named(String name, Call call, long due, Call instead) {
            this.name = name;
            this.call = call;
            this.due = due;
            this.instead = instead;
        }
    }

    private static final class Scene {
        final String name;
        final List<Call> calls = new ArrayList<>();

        Scene(String name) {
            this.name = name;
        }

        void tell(Call call) {
            calls.add(call);
        }

        void tape(String s) {
            byte[] b = s.getBytes(java.nio.charset.StandardCharsets.ISO_8859_1);
            for (int at = 0; at < b.length; at += 20) {
                int i = at;
                tell(x -> x.feed(Check.word(b, i), Check.word(b, i + 4), Check.word(b, i + 8), Check.word(b, i + 12), Check.word(b, i + 16)));
            }
            tell(x -> Check.bit(x.end(b.length)));
        }

        void text(int k, String s) {
            tape(s);
            tell(x -> x.text(k));
        }

        void entry(String name, int... f) {
            tape(name);
            tell(x -> x.entry(f[0], f[1], f[2], f[3], f[4], f[5]));
        }

        CountedTwice make() {
            CountedTwice x = new CountedTwice();
            for (Call call : calls) {
                call.on(x);
            }
            return x;
        }
    }

    private static void town(Scene s) {
        int[][] houses = {{0, 10, 1}, {0, 60, 2}, {1, 5, 1}, {1, 90, 0}, {2, 0, 3}, {2, 999, 9}, {3, 1, 1}, {3, 2, 4}, {4, 7, 5}, {4, 8, 1},
            {4, 9, 6}, {4, 20, 0}, {11, 0, 0}};
        for (int[] h : houses) {
            s.tell(x -> x.house(h[0], h[1], h[2]));
        }
        s.tell(x -> x.state(77));
        s.tell(x -> Check.bit(x.gap(0, 1, 30)));
        s.tell(x -> Check.bit(x.gap(2, 4, 7)));
        s.tell(x -> Check.bit(x.set(0, 40)));
        s.tell(x -> Check.bit(x.set(1, 3)));
        s.text(0, "like when letters<2 and first=1;");
        s.text(1, "like when ages<4 or near<20;");
        s.text(2, "away when hour<8 and kind=1; home when day=3; away when street=2;");
    }

    private static void book(Scene s) {
        int[][] facts = {{0, 0, 0, 0, 500, 30}, {1, 0, 1, 0, 501, 31}, {0, 0, 1, 0, 505, 32}, {0, 1, 2, 3, 400, 77}, {1, 9, 4, 1, 700, 54},
            {1, 10, 5, 1, 800, 52}, {0, 1, 4, 2, 810, 52}, {0, 0, 3, 0, 506, 1}};
        String[] names = {"anna", "ana", "bob", "anne", "rob", "zoe", "robb", "anna"};
        for (int e = 0; e < names.length; e++) {
            s.entry(names[e], facts[e]);
        }
        s.tell(x -> Check.bit(x.voids(3)));
    }

    private static void plans(Scene s) {
        int[] streets = {4, 0, 3, 11, 1};
        for (int i = 0; i < 5; i++) {
            int slot = i;
            s.tell(x -> Check.bit(x.last(0, slot, streets[slot])));
            s.tell(x -> Check.bit(x.last(1, slot, 1 + slot % 3)));
            s.tell(x -> Check.bit(x.plan(slot, slot % 4, (slot + 1) % 5)));
            s.tell(x -> Check.bit(x.plan(slot, (slot + 1) % 4, slot)));
        }
        s.tell(x -> Check.bit(x.last(2, 0, 2)));
        s.tell(x -> Check.bit(x.last(3, 0, 4)));
        s.tell(x -> Check.bit(x.closed(0, 0, true)));
        s.tell(x -> Check.bit(x.closed(2, 1, true)));
        int[][] steps = {{0, 500}, {1, 530}, {3, 700}, {4, 800}};
        for (int i = 0; i < steps.length; i++) {
            int at = i;
            s.tell(x -> x.step(at, steps[at][0], steps[at][1]));
        }
    }

    /** All is told, an image of an earlier time was taken, the view is of a time that is gone, a name is on the tape, and a fault told. */
    private static Scene busy() {
        Scene s = new Scene("busy");
        town(s);
        s.entry("ana", 0, 2, 6, 5, 600, 44);
        s.tell(x -> x.step(0, 1, 100));
        s.tell(x -> Check.bit(x.last(0, 0, 2)));
        s.tell(x -> Check.bit(x.plan(5, 3, 0)));
        s.tell(x -> Check.bit(x.closed(1, 1, true)));
        s.tell(x -> Check.bit(x.image(true)));
        book(s);
        plans(s);
        s.tell(x -> x.lots(2));
        s.tell(x -> Check.bit(x.view(8)));
        s.tell(x -> Check.bit(x.voids(1)));
        s.text(0, "nonsense");
        s.tape("annab");
        return s;
    }

    /** All is told, now is asked, nothing is on the tape, no image was taken. */
    private static Scene plain() {
        Scene s = new Scene("plain");
        town(s);
        book(s);
        plans(s);
        s.tell(x -> Check.bit(x.voids(0)));
        return s;
    }

    private static Scene fullTown() {
        Scene s = new Scene("sixty houses");
        for (int h = 0; h < 60; h++) {
            int number = h;
            s.tell(x -> x.house(number % 12, number, number % 10));
        }
        s.entry("ana", 0, 0, 59, 0, 0, 0);
        s.tell(x -> Check.bit(x.image(true)));
        s.tape("eva");
        return s;
    }

    private static Scene fullBook() {
        Scene s = new Scene("120 entries");
        s.tell(x -> x.house(3, 3, 3));
        for (int e = 0; e < 120; e++) {
            s.entry(e % 2 == 0 ? "ana" : "bob", e % 2, e % 11, 0, e % 100, e, e);
        }
        s.tape("eva");
        return s;
    }

    private static Scene fullTapeAndRound() {
        Scene s = new Scene("a full tape and 24 steps");
        s.tell(x -> x.house(3, 3, 3));
        s.tell(x -> x.house(3, 4, 3));
        for (int i = 0; i < 24; i++) {
            int at = i;
            s.tell(x -> x.step(at, at % 2, 20 * at));
        }
        s.tape(Check.repeat("like when ages=1;   ", 20));
        return s;
    }

    private static void ask(List<Named> list, String name, Call call) {
        list.add(new Named(name, call, 0, null));
    }

    private static List<Named> questions(CountedTwice x) {
        List<Named> q = new ArrayList<>();
        int houses = x.look(0);
        int entries = x.look(1);
        int persons = x.look(5);
        for (int what = 0; what <= 52; what++) {
            int w = what;
            ask(q, "look(" + w + ")", y -> y.look(w));
        }
        for (int a = 0; a < houses; a += 1 + houses / 12) {
            for (int b = 0; b < houses; b += 1 + houses / 6) {
                int f = a;
                int g = b;
                ask(q, "way(" + f + ", " + g + ", 0)", y -> y.way(f, g, 0));
                ask(q, "way(" + f + ", " + g + ", 1)", y -> y.way(f, g, 1));
            }
            int h = a;
            for (int hour = 1; hour < 24; hour += 8) {
                int m = 60 * hour;
                ask(q, "home(" + h + ", 3, " + m + ")", y -> y.home(h, 3, m));
                ask(q, "home(" + h + ", 0, " + m + ")", y -> y.home(h, 0, m));
            }
        }
        for (int e = 0; e < entries; e += 1 + entries / 12) {
            int one = e;
            for (int what = 0; what < 18; what++) {
                int w = what;
                ask(q, "of(" + one + ", " + w + ")", y -> y.of(one, w));
            }
            for (int f = 0; f < e; f += 1 + entries / 12) {
                int other = f;
                for (int what = 0; what < 4; what++) {
                    int w = what;
                    ask(q, "alike(" + one + ", " + other + ", " + w + ")", y -> y.alike(one, other, w));
                }
            }
        }
        for (int p = 0; p <= persons; p += 1 + persons / 12) {
            int one = p;
            for (int what = 0; what < 4; what++) {
                int w = what;
                ask(q, "person(" + one + ", " + w + ")", y -> y.person(one, w));
            }
        }
        others(q);
        return q;
    }

    private static void others(List<Named> q) {
        for (int street = -1; street < 12; street++) {
            int s = street;
            for (int what = 0; what < 5; what++) {
                int w = what;
                ask(q, "table(" + s + ", " + w + ")", y -> y.table(s, w));
            }
        }
        for (int counter = 0; counter < 11; counter++) {
            int c = counter;
            for (int what = 0; what < 6; what++) {
                int w = what;
                ask(q, "counter(" + c + ", " + w + ")", y -> y.counter(c, w));
            }
            ask(q, "even(" + c + ")", y -> y.even(c));
        }
        for (int day = 0; day < 4; day++) {
            int d = day;
            ask(q, "round(" + d + ", 0)", y -> y.round(d, 0));
            ask(q, "round(" + d + ", 1)", y -> y.round(d, 1));
        }
        ask(q, "ends(0)", y -> y.ends(0));
        ask(q, "ends(1)", y -> y.ends(1));
        ask(q, "suspect()", y -> y.suspect());
        ask(q, "planned()", y -> y.planned());
        ask(q, "best()", y -> y.best());
        ask(q, "fault(0)", y -> y.fault(0));
        ask(q, "fault(1)", y -> y.fault(1));
    }

    /** What can be seen only by telling more: each asked of an object of its own. */
    private static List<Named> deeds() {
        List<Named> q = new ArrayList<>();
        ask(q, "the tape's length", y -> y.feed(0, 0, 0, 0, 0));
        ask(q, "the tape as a text", y -> 1000000L * y.text(0) + 1000L * y.fault(0) + y.fault(1));
        ask(q, "the tape as a name", y -> {
            int e = y.entry(0, 0, 0, 0, 0, 0);
            long sum = e;
            for (int k = 6; k < 18; k++) {
                sum = sum * 31 + y.of(e, k);
            }
            return sum;
        });
        ask(q, "the next house", y -> y.house(0, 0, 0));
        ask(q, "the next entry", y -> {
            y.end(0);
            return Check.entry(y, "x", 0, 0, 0, 0, 0, 0);
        });
        ask(q, "the next step", y -> y.step(y.look(7), 0, 0));
        ask(q, "which are void", y -> {
            long sum = 0;
            for (int e = 0; e < 20; e++) {
                sum = 2 * sum + Check.bit(y.voids(e));
            }
            return sum;
        });
        ask(q, "lots", y -> 7 * y.lots(y.look(6)) + y.look(8));
        ask(q, "lots of one", y -> 7 * y.lots(1) + y.look(8));
        ask(q, "the image", y -> Check.bit(y.image(false)));
        ask(q, "the plan of all days", RefusedTest::planOfAll);
        ask(q, "what is closed", RefusedTest::closedOfAll);
        return q;
    }

    /** One counter with strength and one slot with a street at a time. */
    private static long planOfAll(CountedTwice y) {
        long sum = 0;
        y.last(2, 0, 4);
        y.last(3, 0, 6);
        for (int c = 0; c < 6; c++) {
            y.last(1, c, 0);
        }
        for (int slot = 0; slot < 5; slot++) {
            for (int s = 0; s < 5; s++) {
                y.last(0, s, -1);
            }
            y.last(0, slot, 4);
            for (int c = 0; c < 6; c++) {
                y.last(1, c, 1);
                sum = sum * 5 + y.planned();
                y.last(1, c, 0);
            }
        }
        return sum;
    }

    private static long closedOfAll(CountedTwice y) {
        long sum = 0;
        y.last(3, 0, 1);
        y.last(1, 0, 1);
        for (int slot = 0; slot < 5; slot++) {
            for (int s = 0; s < 5; s++) {
                y.last(0, s, -1);
            }
            y.last(0, slot, 4);
            for (int days = 1; days <= 4; days++) {
                y.last(2, 0, days);
                sum = sum * 5 + y.best();
            }
        }
        return sum;
    }

    private static void no(List<Named> list, String name, Call call, long due) {
        list.add(new Named(name, call, due, null));
    }

    private static void none(List<Named> list, String name, Call call) {
        no(list, name, call, -1);
    }

    private static void emptied(List<Named> list, String name, Call call) {
        list.add(new Named(name, call, -1, y -> Check.bit(y.end(0))));
    }

    private static List<Named> tellings(CountedTwice x) {
        List<Named> r = new ArrayList<>();
        int houses = x.look(0);
        int entries = x.look(1);
        int time = x.look(3);
        int steps = x.look(7);
        int missed = x.look(6);
        int[][] noHouses = {{-1, 0, 0}, {12, 0, 0}, {0, -1, 0}, {0, 1000, 0}, {0, 0, -1}, {0, 0, 10}};
        for (int[] h : noHouses) {
            none(r, "house", y -> y.house(h[0], h[1], h[2]));
        }
        int[][] noGaps = {{0, 0, 5}, {11, 11, 5}, {-1, 0, 5}, {0, -1, 5}, {12, 0, 5}, {0, 12, 5}, {0, 1, -1}, {0, 1, 1000}};
        for (int[] g : noGaps) {
            no(r, "gap", y -> Check.bit(y.gap(g[0], g[1], g[2])), 0);
        }
        int[][] noSets = {{0, -1}, {0, 100}, {1, -1}, {1, 100}, {2, 9}, {-1, 9}};
        for (int[] s : noSets) {
            no(r, "set", y -> Check.bit(y.set(s[0], s[1])), 0);
        }
        no(r, "end(-1)", y -> Check.bit(y.end(-1)), 0);
        no(r, "end(401)", y -> Check.bit(y.end(401)), 0);
        int[][] noEntries = {{-1, 0, 0, 0, 0, 0}, {2, 0, 0, 0, 0, 0}, {0, -1, 0, 0, 0, 0}, {0, 11, 0, 0, 0, 0}, {0, 0, -1, 0, 0, 0},
            {0, 0, houses, 0, 0, 0}, {0, 0, 0, -1, 0, 0}, {0, 0, 0, 100, 0, 0}, {0, 0, 0, 0, -1, 0}, {0, 0, 0, 0, 1440, 0}, {0, 0, 0, 0, 0, -1},
            {0, 0, 0, 0, 0, 120}};
        for (int[] f : noEntries) {
            emptied(r, "entry", y -> y.entry(f[0], f[1], f[2], f[3], f[4], f[5]));
        }
        for (String name : new String[] {"", "abcdefghi", "Ana", "an a"}) {
            emptied(r, "entry of '" + name + "'", y -> {
                y.end(0);
                return Check.entry(y, name, 0, 0, 0, 0, 0, 0);
            });
        }
        for (int e : new int[] {-1, entries, Integer.MAX_VALUE, Integer.MIN_VALUE}) {
            no(r, "voids(" + e + ")", y -> Check.bit(y.voids(e)), 0);
        }
        for (int t : new int[] {-2, time + 1, Integer.MAX_VALUE, Integer.MIN_VALUE}) {
            no(r, "view(" + t + ")", y -> Check.bit(y.view(t)), 0);
        }
        int[][] noSteps = {{-1, 0, 0}, {steps + 1, 0, 0}, {24, 0, 0}, {0, -1, 0}, {0, houses, 0}, {0, 0, -1}, {0, 0, 1440}};
        for (int[] s : noSteps) {
            none(r, "step", y -> y.step(s[0], s[1], s[2]));
        }
        none(r, "lots(-1)", y -> y.lots(-1));
        none(r, "lots(" + (missed + 1) + ")", y -> y.lots(missed + 1));
        return r;
    }

    private static void lastDays(List<Named> r) {
        int[][] noLasts = {{0, -1, 5}, {0, 5, 5}, {0, 0, -2}, {0, 0, 12}, {1, -1, 5}, {1, 6, 5}, {1, 0, -1}, {1, 0, 10}, {2, 0, 0}, {2, 0, 5},
            {3, 0, 0}, {3, 0, 7}, {4, 0, 1}, {-1, 0, 1}};
        for (int[] l : noLasts) {
            no(r, "last", y -> Check.bit(y.last(l[0], l[1], l[2])), 0);
        }
        int[][] noClosed = {{-1, 0}, {5, 0}, {0, -1}, {0, 4}, {4, 4}, {5, 3}};
        for (int[] c : noClosed) {
            no(r, "closed", y -> Check.bit(y.closed(c[0], c[1], true)), 0);
            no(r, "opened", y -> Check.bit(y.closed(c[0], c[1], false)), 0);
        }
        int[][] noPlans = {{-1, 0, 0}, {6, 0, 0}, {0, -1, 0}, {0, 4, 0}, {0, 0, -2}, {0, 0, 5}, {5, 4, 1}, {6, 3, 1}};
        for (int[] p : noPlans) {
            no(r, "plan", y -> Check.bit(y.plan(p[0], p[1], p[2])), 0);
        }
    }

    private static void askings(List<Named> r, CountedTwice x) {
        int houses = x.look(0);
        int entries = x.look(1);
        none(r, "way", y -> y.way(houses, 0, 0));
        none(r, "way", y -> y.way(0, -1, 1));
        none(r, "way", y -> y.way(0, 0, 2));
        none(r, "fault", y -> y.fault(2));
        none(r, "fault", y -> y.fault(-1));
        none(r, "of", y -> y.of(entries, 8));
        none(r, "of", y -> y.of(-1, 0));
        none(r, "of", y -> y.of(0, 9));
        none(r, "alike", y -> y.alike(0, 0, 0));
        none(r, "alike", y -> y.alike(0, entries, 1));
        none(r, "alike", y -> y.alike(0, 1, 4));
        none(r, "home", y -> y.home(houses, 0, 0));
        none(r, "home", y -> y.home(0, 100, 0));
        none(r, "home", y -> y.home(0, 0, 1440));
        none(r, "person", y -> y.person(-1, 0));
        none(r, "person", y -> y.person(120, 0));
        none(r, "person", y -> y.person(0, 4));
        none(r, "table", y -> y.table(12, 0));
        none(r, "table", y -> y.table(-2, 0));
        none(r, "table", y -> y.table(0, 5));
        none(r, "ends", y -> y.ends(2));
        none(r, "luck", y -> y.luck(61, 0, 0, 0));
        none(r, "luck", y -> y.luck(5, 6, 0, 0));
        none(r, "counter", y -> y.counter(11, 5));
        none(r, "counter", y -> y.counter(0, 6));
        none(r, "even", y -> y.even(11));
        none(r, "even", y -> y.even(-1));
        none(r, "round", y -> y.round(100, 0));
        none(r, "round", y -> y.round(0, 2));
        none(r, "look", y -> y.look(9));
        none(r, "look", y -> y.look(52));
        // What is answered, and only asked, changes nothing either: some of each sort, with the answer that a twin has.
        for (Named q : questions(x)) {
            String sort = q.name.substring(0, q.name.indexOf('('));
            boolean isNew = true;
            for (Named had : r) {
                isNew = isNew && !had.name.equals("asked " + sort);
            }
            if (isNew) {
                r.add(new Named("asked " + sort, q.call, q.call.on(x), null));
            }
        }
        r.add(new Named("luck", y -> y.luck(60, 30, 30, 29), 118264581564861423L, null));
        r.add(new Named("lots(0)", y -> y.lots(0), 0, null));
    }

    private static void run(Scene scene, List<Named> refused) {
        CountedTwice twin = scene.make();
        List<Named> pure = questions(twin);
        List<Named> deeds = deeds();
        int budget = CALLS_MOST - scene.calls.size() - SPARE;
        for (Named r : refused) {
            for (int image = 0; image < 2; image++) {
                for (int from = 0; from < pure.size(); from += budget) {
                    group(scene, r, image == 1, pure.subList(from, Math.min(pure.size(), from + budget)));
                }
            }
            for (Named deed : deeds) {
                if (scene.calls.size() < 350 || !deed.name.contains(" of all") && !deed.name.equals("what is closed")) {
                    group(scene, r, false, List.of(deed));
                }
            }
        }
    }

    private static void group(Scene scene, Named r, boolean image, List<Named> questions) {
        CountedTwice had = scene.make();
        CountedTwice twin = scene.make();
        Check.due(scene.name + ": " + r.name, r.call.on(had), r.due);
        if (r.instead != null) {
            r.instead.on(twin);
        }
        if (image) {
            Check.due("an image", had.image(false), twin.image(false));
        }
        for (Named q : questions) {
            Check.due(scene.name + ": " + q.name + " behind " + r.name, q.call.on(had), q.call.on(twin));
        }
    }

    private static List<Named> allRefused(Scene scene) {
        List<Named> r = tellings(scene.make());
        lastDays(r);
        askings(r, scene.make());
        return r;
    }

    /** What only these scenes refuse, or do beside refusing. */
    private static void special(Scene busy, Scene plain) {
        List<Named> r = new ArrayList<>();
        no(r, "voids of a void one", y -> Check.bit(y.voids(3)), 0);
        no(r, "voids of a void one", y -> Check.bit(y.voids(1)), 0);
        no(r, "a slot's street for another", y -> Check.bit(y.last(0, 1, 4)), 0);
        no(r, "a slot's street for another", y -> Check.bit(y.last(0, 0, 1)), 0);
        no(r, "end", y -> Check.bit(y.end(6)), 0);
        // The tape's "annab" is the same fault at the same place as the latest text's.
        for (int k = 0; k < 3; k++) {
            int text = k;
            emptied(r, "text(" + k + ")", y -> y.text(text));
        }
        for (int k : new int[] {-1, 3, Integer.MIN_VALUE}) {
            r.add(new Named("text(" + k + ")", y -> y.text(k), -1, y -> {
                y.end(0);
                return Check.text(y, 0, "like when letters<2 and first=1;");
            }));
        }
        run(busy, r);
        r.clear();
        no(r, "no image", y -> Check.bit(y.image(false)), 0);
        no(r, "end(1)", y -> Check.bit(y.end(1)), 0);
        emptied(r, "no name", y -> y.entry(0, 0, 0, 0, 0, 0));
        run(plain, r);
    }

    private static void fullScenes() {
        List<Named> r = new ArrayList<>();
        none(r, "house", y -> y.house(0, 0, 0));
        none(r, "house", y -> y.house(11, 999, 9));
        run(fullTown(), r);
        r.clear();
        emptied(r, "entry", y -> y.entry(0, 0, 0, 0, 0, 0));
        run(fullBook(), r);
        r.clear();
        none(r, "feed", y -> y.feed(0, 0, 0, 0, 0));
        none(r, "feed", y -> y.feed(0x6c696b65, -1, -1, -1, -1));
        none(r, "step", y -> y.step(24, 0, 1439));
        run(fullTapeAndRound(), r);
    }

    public static void main(String[] args) {
        Scene[] scenes = {busy(), plain(), fullTown(), fullTapeAndRound()};
        for (Scene scene : scenes) {
            run(scene, allRefused(scene));
        }
        special(scenes[0], scenes[1]);
        fullScenes();
        Check.close("RefusedTest");
    }
}
