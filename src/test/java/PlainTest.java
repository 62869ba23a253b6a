import java.nio.charset.StandardCharsets;
import java.util.ArrayList;
import java.util.List;
import java.util.Random;

/** Runs of calls, made by a random source with told seeds, on the class and on the plain model side by side. */
public final class PlainTest {
    private static final String[] LIKE_VALUES = {"letters", "first", "ages", "near", "days", "book", "house"};
    private static final String[] HOME_VALUES = {"hour", "day", "street", "number", "kind"};
    private static final String[] STRAY = {"like", "home", "away", "when", "or", "and", "not", "(", ")", ";", "<", "=", ">",
        "+", "-", "*", "/", "/0", "/ 000", "/ 0000 ", "0", "12345", "7", "lik", "likes", "day", "days", "A", "Z", "likeX", "Xor ", ".", "\n", "\t", "house", "hour", "\u00e9"};

    /** An object is used for so many calls; a full text with its faults takes at most twenty-five. */
    private static final int CALLS_MOST = 512;
    private static final int DEAREST = 25;

    private static final int THEME_LAST = 0;
    private static final int THEME_ROUND = 1;
    private static final int THEME_TEXT = 2;

    private final Random random;
    private final CountedTwice x = new CountedTwice();
    private final Plain plain = new Plain();
    private final List<String> log = new ArrayList<>();
    private final int streets;
    private final int people;
    private final int theme;
    private boolean failed = false;

    private PlainTest(long seed) {
        random = new Random(seed);
        streets = 1 + random.nextInt(12);
        people = 1 + random.nextInt(6);
        theme = random.nextInt(6);
    }

    private void due(String call, long got, long want) {
        log.add(call + " = " + want);
        Check.due(call, got, want);
        if (got != want) {
            failed = true;
        }
    }

    private void due(String call, boolean got, boolean want) {
        due(call, got ? 1L : 0L, want ? 1L : 0L);
    }

    /** Mostly below the bound; sometimes at an edge or far away. */
    private int upTo(int bound) {
        switch (random.nextInt(40)) {
            case 0:
                return -1;
            case 1:
                return bound;
            case 2:
                return random.nextBoolean() ? Integer.MIN_VALUE : Integer.MAX_VALUE;
            case 3:
                return random.nextInt();
            case 4:
                return bound - 1;
            default:
                return bound > 0 ? random.nextInt(bound) : 0;
        }
    }

    private void tape(String text) {
        byte[] bytes = text.getBytes(StandardCharsets.ISO_8859_1);
        for (int at = 0; at < bytes.length; at += 20) {
            int a = Check.word(bytes, at);
            int b = Check.word(bytes, at + 4);
            int c = Check.word(bytes, at + 8);
            int d = Check.word(bytes, at + 12);
            int e = Check.word(bytes, at + 16);
            due("feed(" + a + ", " + b + ", " + c + ", " + d + ", " + e + ")", x.feed(a, b, c, d, e), plain.feed(a, b, c, d, e));
        }
        end(bytes.length);
    }

    private void end(int n) {
        due("end(" + n + ")", x.end(n), plain.end(n));
    }

    private String amount(boolean home) {
        StringBuilder s = new StringBuilder(unit(home));
        for (int i = random.nextInt(7); i > 4; i--) {
            switch (random.nextInt(4)) {
                case 0:
                    s.append(" + ").append(unit(home));
                    break;
                case 1:
                    s.append("-").append(unit(home));
                    break;
                case 2:
                    s.append(" * ").append(unit(home));
                    break;
                default:
                    s.append("/").append(1 + random.nextInt(random.nextBoolean() ? 5 : 9999));
            }
        }
        return s.toString();
    }

    private String unit(boolean home) {
        String[] values = home ? HOME_VALUES : LIKE_VALUES;
        if (random.nextInt(3) > 0) {
            return values[random.nextInt(values.length)];
        }
        int[] bounds = {3, 10, 30, 300, 10000};
        return Integer.toString(random.nextInt(bounds[random.nextInt(5)]));
    }

    private String condition(boolean home, int depth) {
        int sort = random.nextInt(10);
        if (sort < 6 || depth > 3) {
            return amount(home) + (random.nextBoolean() ? " " : "") + "<=>".charAt(random.nextInt(3)) + amount(home);
        }
        if (sort == 6) {
            return "not " + condition(home, depth + 1);
        }
        if (sort == 7) {
            return "(" + condition(home, depth + 1) + " )";
        }
        return condition(home, depth + 1) + (sort == 8 ? " and " : "\nor ") + condition(home, depth + 1);
    }

    private String simple() {
        String[] some = {"letters<" + (1 + random.nextInt(3)), "first=1", "ages<" + (1 + random.nextInt(6)),
            "near<" + random.nextInt(200), "days<" + (1 + random.nextInt(4)), "not book=1", "house=1"};
        StringBuilder s = new StringBuilder(some[random.nextInt(some.length)]);
        for (int i = random.nextInt(3); i > 0; i--) {
            s.append(" and ").append(some[random.nextInt(some.length)]);
        }
        return s.toString();
    }

    private String line(int k) {
        if (k < 2) {
            return "like when " + (random.nextInt(3) > 0 ? simple() : condition(false, 0)) + ";";
        }
        return (random.nextInt(3) == 0 ? "home" : "away") + " when " + condition(true, 0) + ";";
    }

    private void text() {
        int k = random.nextInt(3);
        StringBuilder s = new StringBuilder();
        int lines = random.nextInt(12) == 0 ? 14 + random.nextInt(5) : random.nextInt(4);
        for (int i = 0; i < lines; i++) {
            s.append(lines > 12 ? (k < 2 ? "like" : "away") + " when 1<0;" : line(k));
        }
        for (int i = random.nextInt(5); i > 3; i--) {
            int at = random.nextInt(s.length() + 1);
            String stray = STRAY[random.nextInt(STRAY.length)];
            if (random.nextBoolean()) {
                s.insert(at, stray);
            } else {
                s.replace(at, Math.min(s.length(), at + random.nextInt(5)), stray);
            }
        }
        if (random.nextInt(12) == 0) {
            s.setLength(random.nextInt(s.length() + 1));
        }
        if (random.nextInt(20) == 0) {
            s = deep(k);
        }
        tape(s.length() > 400 ? s.substring(0, 400) : s.toString());
        int which = random.nextInt(15) == 0 ? upTo(3) : k;
        due("text(" + which + ")", x.text(which), plain.text(which));
        due("fault(0)", x.fault(0), plain.fault(0));
        due("fault(1)", x.fault(1), plain.fault(1));
    }

    private StringBuilder deep(int k) {
        StringBuilder s = new StringBuilder(k < 2 ? "like when " : "home when ");
        int brackets = 0;
        for (int i = 6 + random.nextInt(4); i > 0; i--) {
            if (random.nextBoolean()) {
                s.append("not ");
            } else {
                s.append("( 1>2 or 1=1 and ");
                brackets++;
            }
        }
        s.append(k < 2 ? "ages > 2" : "hour < 12");
        for (int i = 0; i < brackets; i++) {
            s.append(random.nextInt(3) == 0 ? " and not 2>3)" : ")");
        }
        return s.append(" or 0=1;");
    }

    private String name() {
        String[] some = {"ana", "anna", "hanna", "bo", "bob", "rob", "eva", "iva", "carl", "karl", "nora", "dora", "a", "abcdefgh"};
        int sort = random.nextInt(20);
        if (sort > 4) {
            return some[random.nextInt(some.length)];
        }
        if (sort == 0) {
            return random.nextBoolean() ? "" : "Bob";
        }
        StringBuilder s = new StringBuilder();
        int length = 1 + random.nextInt(random.nextInt(6) == 0 ? 9 : 8);
        for (int i = 0; i < length; i++) {
            s.append((char) ('a' + random.nextInt(sort == 1 ? 26 : 3)));
        }
        return s.toString();
    }

    private void house() {
        int street = random.nextInt(30) == 0 ? upTo(12) : random.nextInt(streets);
        int number = upTo(random.nextBoolean() ? 1000 : 60);
        int kind = upTo(10);
        due("house(" + street + ", " + number + ", " + kind + ")", x.house(street, number, kind), plain.house(street, number, kind));
    }

    private void entry() {
        tape(name());
        int count = random.nextInt(30) == 0 ? upTo(2) : random.nextInt(2);
        int counter = random.nextInt(30) == 0 ? upTo(11) : random.nextInt(people);
        int house = random.nextInt(30) == 0 ? upTo(60) : random.nextInt(Math.max(1, plain.look(0)));
        int day = random.nextInt(30) == 0 ? upTo(100) : random.nextInt(4);
        int minute = random.nextInt(30) == 0 ? upTo(1440) : random.nextInt(6) == 0 ? random.nextInt(1440) : 400 + random.nextInt(90);
        int age = random.nextInt(30) == 0 ? upTo(120) : 20 + random.nextInt(15);
        String call = "entry(" + count + ", " + counter + ", " + house + ", " + day + ", " + minute + ", " + age + ")";
        due(call, x.entry(count, counter, house, day, minute, age), plain.entry(count, counter, house, day, minute, age));
    }

    private void tell() {
        int a;
        int b;
        int c;
        int sort = random.nextInt(12);
        if (theme == THEME_ROUND && random.nextInt(3) > 0) {
            sort = 5;
        }
        if (theme == THEME_LAST && random.nextInt(3) > 0) {
            sort = 6 + random.nextInt(4);
        }
        switch (sort) {
            case 0:
                a = random.nextInt();
                due("state(" + a + ")", x.state(a), plain.state(a));
                break;
            case 1:
                a = upTo(streets);
                b = upTo(streets);
                c = upTo(random.nextBoolean() ? 1000 : 20);
                due("gap(" + a + ", " + b + ", " + c + ")", x.gap(a, b, c), plain.gap(a, b, c));
                break;
            case 2:
                a = upTo(2);
                b = upTo(100);
                due("set(" + a + ", " + b + ")", x.set(a, b), plain.set(a, b));
                break;
            case 3:
                a = upTo(plain.look(1));
                due("voids(" + a + ")", x.voids(a), plain.voids(a));
                break;
            case 4:
                a = random.nextBoolean() ? -1 : upTo(plain.look(3) + 1);
                due("view(" + a + ")", x.view(a), plain.view(a));
                break;
            case 5:
                a = random.nextInt(8) == 0 ? upTo(24) : plain.look(7);
                b = upTo(plain.look(0));
                c = random.nextInt(12) == 0 ? upTo(1440) : Math.min(1439, 300 + 45 * Math.max(0, Math.min(a, 40)) + random.nextInt(9));
                due("step(" + a + ", " + b + ", " + c + ")", x.step(a, b, c), plain.step(a, b, c));
                break;
            case 6:
            case 7:
                lastDays();
                break;
            case 8:
                a = upTo(5);
                b = upTo(4);
                boolean is = random.nextInt(3) == 0;
                due("closed(" + a + ", " + b + ", " + is + ")", x.closed(a, b, is), plain.closed(a, b, is));
                break;
            case 9:
                a = upTo(6);
                b = upTo(4);
                c = upTo(5);
                due("plan(" + a + ", " + b + ", " + c + ")", x.plan(a, b, c), plain.plan(a, b, c));
                break;
            case 10:
                boolean taken = random.nextInt(3) == 0;
                due("image(" + taken + ")", x.image(taken), plain.image(taken));
                break;
            default:
                a = upTo(40);
                due("end(" + a + ")", x.end(a), plain.end(a));
                end(0);
        }
    }

    private void lastDays() {
        int what = random.nextInt(20) == 0 ? upTo(4) : random.nextInt(4);
        int i = upTo(what == 0 ? 5 : 6);
        int v = what == 0 ? upTo(streets) : what == 1 ? upTo(10) : what == 2 ? upTo(5) : upTo(7);
        due("last(" + what + ", " + i + ", " + v + ")", x.last(what, i, v), plain.last(what, i, v));
    }

    private void prepareLastDays() {
        for (int i = 0; i < 5; i++) {
            int street = i % streets;
            due("last(0, " + i + ", " + street + ")", x.last(0, i, street), plain.last(0, i, street));
            int strength = random.nextInt(random.nextBoolean() ? 10 : 4);
            due("last(1, " + i + ", " + strength + ")", x.last(1, i, strength), plain.last(1, i, strength));
        }
        int days = 1 + random.nextInt(4);
        due("last(2, 7, " + days + ")", x.last(2, 7, days), plain.last(2, 7, days));
        int counters = 1 + random.nextInt(6);
        due("last(3, 7, " + counters + ")", x.last(3, 7, counters), plain.last(3, 7, counters));
        for (int c = 0; c < counters; c++) {
            for (int d = 0; d < days; d++) {
                int slot = random.nextInt(6) - 1;
                due("plan(" + c + ", " + d + ", " + slot + ")", x.plan(c, d, slot), plain.plan(c, d, slot));
            }
        }
    }

    private void ask() {
        int a;
        int b;
        int c;
        int sort = random.nextInt(17);
        if (theme == THEME_ROUND && random.nextInt(3) == 0) {
            sort = 11;
        }
        if (theme == THEME_LAST && random.nextInt(3) == 0) {
            sort = 12 + random.nextInt(2);
        }
        if (theme == THEME_TEXT && random.nextInt(3) == 0) {
            sort = 2 + random.nextInt(2);
        }
        switch (sort) {
            case 0:
                a = upTo(plain.look(0));
                b = upTo(plain.look(0));
                c = upTo(2);
                due("way(" + a + ", " + b + ", " + c + ")", x.way(a, b, c), plain.way(a, b, c));
                break;
            case 1:
                a = upTo(plain.look(1));
                b = upTo(19);
                due("of(" + a + ", " + b + ")", x.of(a, b), plain.of(a, b));
                break;
            case 2:
                a = upTo(plain.look(1));
                b = upTo(plain.look(1));
                c = upTo(4);
                due("alike(" + a + ", " + b + ", " + c + ")", x.alike(a, b, c), plain.alike(a, b, c));
                break;
            case 3:
                a = upTo(plain.look(0));
                b = upTo(random.nextBoolean() ? 100 : 5);
                c = upTo(1440);
                due("home(" + a + ", " + b + ", " + c + ")", x.home(a, b, c), plain.home(a, b, c));
                break;
            case 4:
                a = upTo(8);
                b = upTo(4);
                due("person(" + a + ", " + b + ")", x.person(a, b), plain.person(a, b));
                break;
            case 5:
                a = random.nextBoolean() ? -1 : upTo(streets);
                b = upTo(5);
                due("table(" + a + ", " + b + ")", x.table(a, b), plain.table(a, b));
                break;
            case 6:
                a = upTo(2);
                due("ends(" + a + ")", x.ends(a), plain.ends(a));
                break;
            case 7:
                luck();
                break;
            case 8:
                a = upTo(people);
                b = upTo(6);
                due("counter(" + a + ", " + b + ")", x.counter(a, b), plain.counter(a, b));
                break;
            case 9:
                a = upTo(people);
                due("even(" + a + ")", x.even(a), plain.even(a));
                break;
            case 10:
                due("suspect()", x.suspect(), plain.suspect());
                break;
            case 11:
                a = upTo(5);
                b = upTo(2);
                due("round(" + a + ", " + b + ")", x.round(a, b), plain.round(a, b));
                break;
            case 12:
                due("planned()", x.planned(), plain.planned());
                break;
            case 13:
                due("best()", x.best(), plain.best());
                break;
            case 14:
                a = random.nextInt(3) == 0 ? upTo(60) : random.nextInt(plain.look(6) + 2);
                due("lots(" + a + ")", x.lots(a), plain.lots(a));
                break;
            default:
                a = upTo(55);
                due("look(" + a + ")", x.look(a), plain.look(a));
        }
    }

    private void luck() {
        int n = upTo(61);
        int a = upTo(n);
        int b = upTo(n);
        int k = upTo(n);
        due("luck(" + n + ", " + a + ", " + b + ", " + k + ")", x.luck(n, a, b, k), plain.luck(n, a, b, k));
    }

    private void run() {
        int houses = random.nextInt(4) == 0 ? 62 : random.nextInt(25);
        for (int i = 0; i < houses; i++) {
            house();
        }
        if (theme == THEME_LAST) {
            prepareLastDays();
        }
        int textShare = theme == THEME_TEXT ? 7 : 4;
        // One run in ten is for full books, which take most of the calls that an object has.
        int entryShare = random.nextInt(10) == 0 ? 60 : 8 + random.nextInt(12);
        while (log.size() < CALLS_MOST - DEAREST && !failed) {
            int sort = random.nextInt(entryShare + 48);
            if (sort < textShare) {
                text();
            } else if (sort < 8 && theme != THEME_LAST) {
                house();
            } else if (sort < 18) {
                tell();
            } else if (sort < 48) {
                ask();
            } else {
                entry();
            }
        }
        while (log.size() < CALLS_MOST && !failed) {
            ask();
        }
    }

    public static void main(String[] args) {
        long from = args.length > 0 ? Long.parseLong(args[0]) : 1L;
        long runs = args.length > 1 ? Long.parseLong(args[1]) : 600L;
        for (long seed = from; seed < from + runs && !Check.hasWrong(); seed++) {
            PlainTest test = new PlainTest(seed);
            test.run();
            if (test.failed) {
                System.out.println("seed " + seed + ":");
                for (String call : test.log) {
                    System.out.println("  " + call);
                }
            }
        }
        Check.close("PlainTest");
    }
}
