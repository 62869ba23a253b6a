import java.util.ArrayList;
import java.util.Arrays;
import java.util.Collections;
import java.util.HashMap;
import java.util.HashSet;
import java.util.List;
import java.util.Map;
import java.util.Set;
import java.util.TreeSet;
import java.math.BigInteger;

/**
 * The document once more, in the plainest ways that can be thought of and with the Java library:
 * what the class answers is held against it by PlainTest.
 */
final class Plain {
    static final int NONE = -1;

    static final class House {
        int street;
        int number;
        int kind;
    }

    static final class Entry {
        int id;
        int[] facts;
        String name;
        int born;
        int gone;
    }

    static final class Line {
        boolean away;
        Condition when;
    }

    interface Condition {
        boolean is(Map<String, Integer> values);
    }

    interface Amount {
        int of(Map<String, Integer> values);
    }

    static final class Fault extends RuntimeException {
        private static final long serialVersionUID = 1L;
        final int kind;
        final int place;

        Fault(int kind, int place) {
            this.kind = kind;
            this.place = place;
        }
    }

    static final class Told {
        int state = 0;
        List<House> houses = new ArrayList<>();
        Map<Integer, Integer> gaps = new HashMap<>();
        int pace = 2;
        int sit = 5;
        List<Entry> entries = new ArrayList<>();
        int time = 0;
        int view = NONE;
        List<List<Line>> texts = new ArrayList<>(List.of(List.of(), List.of(), List.of()));
        List<int[]> steps = new ArrayList<>();
        int[] streets = {-1, -1, -1, -1, -1};
        int[] strengths = new int[6];
        int days = 1;
        int counters = 1;
        Set<Integer> closed = new HashSet<>();
        Map<Integer, Integer> plan = new HashMap<>();

        Told copy() {
            Told t = new Told();
            t.state = state;
            t.houses = new ArrayList<>(houses);
            t.gaps = new HashMap<>(gaps);
            t.pace = pace;
            t.sit = sit;
            for (Entry e : entries) {
                Entry f = new Entry();
                f.id = e.id;
                f.facts = e.facts;
                f.name = e.name;
                f.born = e.born;
                f.gone = e.gone;
                t.entries.add(f);
            }
            t.time = time;
            t.view = view;
            t.texts = new ArrayList<>(texts);
            t.steps = new ArrayList<>(steps);
            t.streets = streets.clone();
            t.strengths = strengths.clone();
            t.days = days;
            t.counters = counters;
            t.closed = new HashSet<>(closed);
            t.plan = new HashMap<>(plan);
            return t;
        }
    }

    private Told t = new Told();
    private Told kept = null;
    private String tape = "";
    private int fault = 0;
    private int place = NONE;

    private static boolean in(int v, int from, int to) {
        return v >= from && v <= to;
    }

    int state(int v) {
        int was = t.state;
        t.state = v;
        return was;
    }

    private int draw(int m) {
        t.state = (int) (1664525L * t.state + 1013904223L);
        long unsigned = t.state & 0xffffffffL;
        return (int) (unsigned / 256 % m);
    }

    int house(int street, int number, int kind) {
        if (!in(street, 0, 11) || !in(number, 0, 999) || !in(kind, 0, 9) || t.houses.size() == 60) {
            return NONE;
        }
        House h = new House();
        h.street = street;
        h.number = number;
        h.kind = kind;
        t.houses.add(h);
        return t.houses.size() - 1;
    }

    boolean gap(int a, int b, int v) {
        if (!in(a, 0, 11) || !in(b, 0, 11) || a == b || !in(v, 0, 999)) {
            return false;
        }
        t.gaps.put(Math.min(a, b) * 100 + Math.max(a, b), v);
        return true;
    }

    boolean set(int what, int v) {
        if (!in(v, 0, 99) || !in(what, 0, 1)) {
            return false;
        }
        if (what == 0) {
            t.pace = v;
        } else {
            t.sit = v;
        }
        return true;
    }

    private boolean isHouse(int h) {
        return in(h, 0, t.houses.size() - 1);
    }

    private int wayOf(int a, int b) {
        House g = t.houses.get(a);
        House h = t.houses.get(b);
        if (g.street == h.street) {
            return Math.abs(g.number - h.number);
        }
        int key = Math.min(g.street, h.street) * 100 + Math.max(g.street, h.street);
        return g.number + h.number + t.gaps.getOrDefault(key, 100);
    }

    private int minutesOf(int a, int b) {
        return wayOf(a, b) * t.pace / 100 + t.sit;
    }

    int way(int a, int b, int what) {
        if (!isHouse(a) || !isHouse(b) || !in(what, 0, 1)) {
            return NONE;
        }
        return what == 0 ? wayOf(a, b) : minutesOf(a, b);
    }

    int feed(int a, int b, int c, int d, int e) {
        if (tape.length() + 20 > 400) {
            return NONE;
        }
        StringBuilder s = new StringBuilder(tape);
        for (int w : new int[] {a, b, c, d, e}) {
            s.append((char) (w >> 24 & 255)).append((char) (w >> 16 & 255));
            s.append((char) (w >> 8 & 255)).append((char) (w & 255));
        }
        tape = s.toString();
        return tape.length();
    }

    boolean end(int n) {
        if (!in(n, 0, tape.length())) {
            return false;
        }
        tape = tape.substring(0, n);
        return true;
    }

    int text(int k) {
        String source = tape;
        tape = "";
        fault = 0;
        place = NONE;
        if (!in(k, 0, 2)) {
            return NONE;
        }
        try {
            List<Line> lines = new Reader(source, k == 2).lines();
            t.texts.set(k, lines);
            return lines.size();
        } catch (Fault f) {
            fault = f.kind;
            place = f.place;
            return NONE;
        }
    }

    /** Reads sign by sign, without tokens made ahead. */
    static final class Reader {
        final String s;
        final boolean home;
        final List<String> values;
        int at = 0;

        Reader(String s, boolean home) {
            this.s = s;
            this.home = home;
            values = home ? List.of("hour", "day", "street", "number", "kind")
                    : List.of("letters", "first", "ages", "near", "days", "book", "house");
        }

        private void blanks() {
            while (at < s.length() && (s.charAt(at) == 32 || s.charAt(at) == 10)) {
                at++;
            }
        }

        /** The token at the place, without going on. */
        private String peek() {
            blanks();
            if (at == s.length()) {
                return "";
            }
            int to = at + 1;
            for (String sort : List.of("abcdefghijklmnopqrstuvwxyzABCDEFGHIJKLMNOPQRSTUVWXYZ", "0123456789")) {
                if (sort.indexOf(s.charAt(at)) >= 0) {
                    while (to < s.length() && sort.indexOf(s.charAt(to)) >= 0) {
                        to++;
                    }
                }
            }
            return s.substring(at, to);
        }

        private boolean comes(String token) {
            return peek().equals(token);
        }

        private boolean takes(String token) {
            if (comes(token)) {
                at += token.length();
                return true;
            }
            return false;
        }

        private void must(String token) {
            if (!takes(token)) {
                throw new Fault(1, at);
            }
        }

        List<Line> lines() {
            List<Line> lines = new ArrayList<>();
            while (!peek().isEmpty()) {
                boolean ok = home ? comes("home") || comes("away") : comes("like");
                if (!ok) {
                    throw new Fault(1, at);
                }
                if (lines.size() == 16) {
                    throw new Fault(3, at);
                }
                Line line = new Line();
                line.away = comes("away");
                must(peek());
                must("when");
                line.when = b(0);
                must(";");
                lines.add(line);
            }
            return lines;
        }

        private Condition b(int open) {
            Condition left = a(open);
            while (takes("or")) {
                Condition l = left;
                Condition r = a(open);
                left = v -> l.is(v) || r.is(v);
            }
            return left;
        }

        private Condition a(int open) {
            Condition left = c(open);
            while (takes("and")) {
                Condition l = left;
                Condition r = c(open);
                left = v -> l.is(v) && r.is(v);
            }
            return left;
        }

        private Condition c(int open) {
            if (comes("not") || comes("(")) {
                if (open == 8) {
                    throw new Fault(3, at);
                }
                if (takes("not")) {
                    Condition r = c(open + 1);
                    return v -> !r.is(v);
                }
                must("(");
                Condition r = b(open + 1);
                must(")");
                return r;
            }
            Amount l = e();
            String sign = peek();
            if (!List.of("<", "=", ">").contains(sign)) {
                throw new Fault(1, at);
            }
            must(sign);
            Amount r = e();
            return v -> sign.equals("<") ? l.of(v) < r.of(v) : sign.equals("=") ? l.of(v) == r.of(v) : l.of(v) > r.of(v);
        }

        private Amount e() {
            Amount left = term();
            while (comes("+") || comes("-")) {
                boolean plus = takes("+");
                if (!plus) {
                    must("-");
                }
                Amount l = left;
                Amount r = term();
                left = v -> plus ? l.of(v) + r.of(v) : l.of(v) - r.of(v);
            }
            return left;
        }

        private Amount term() {
            Amount left = unit();
            while (comes("*") || comes("/")) {
                Amount l = left;
                if (takes("*")) {
                    Amount r = unit();
                    left = v -> l.of(v) * r.of(v);
                } else {
                    must("/");
                    String n = peek();
                    if (!n.matches("[0-9]{1,4}")) {
                        throw new Fault(1, at);
                    }
                    int by = Integer.parseInt(n);
                    if (by == 0) {
                        throw new Fault(2, at);
                    }
                    must(n);
                    left = v -> l.of(v) / by;
                }
            }
            return left;
        }

        private Amount unit() {
            String u = peek();
            if (u.matches("[0-9]{1,4}")) {
                must(u);
                int n = Integer.parseInt(u);
                return v -> n;
            }
            if (!values.contains(u)) {
                throw new Fault(1, at);
            }
            must(u);
            return v -> v.get(u);
        }
    }

    int fault(int what) {
        return what == 0 ? fault : what == 1 ? place : NONE;
    }

    int entry(int count, int counter, int house, int day, int minute, int age) {
        String name = tape;
        tape = "";
        if (!in(count, 0, 1) || !in(counter, 0, 10) || !isHouse(house) || !in(day, 0, 99) || !in(minute, 0, 1439)
                || !in(age, 0, 119) || !name.matches("[a-z]{1,8}") || t.entries.size() == 120) {
            return NONE;
        }
        Entry e = new Entry();
        e.id = t.entries.size();
        e.facts = new int[] {count, counter, house, day, minute, age};
        e.name = name;
        t.time++;
        e.born = t.time;
        e.gone = Integer.MAX_VALUE;
        t.entries.add(e);
        return e.id;
    }

    private boolean isEntry(int e) {
        return in(e, 0, t.entries.size() - 1);
    }

    boolean voids(int entry) {
        if (!isEntry(entry) || t.entries.get(entry).gone != Integer.MAX_VALUE) {
            return false;
        }
        t.time++;
        t.entries.get(entry).gone = t.time;
        return true;
    }

    boolean view(int time) {
        if (!in(time, NONE, t.time)) {
            return false;
        }
        t.view = time;
        return true;
    }

    private boolean known(Entry e) {
        int at = t.view == NONE ? t.time : t.view;
        return e.born <= at && at < e.gone;
    }

    private List<Entry> entries() {
        List<Entry> list = new ArrayList<>();
        for (Entry e : t.entries) {
            if (known(e)) {
                list.add(e);
            }
        }
        return list;
    }

    int of(int entry, int what) {
        if (!isEntry(entry)) {
            return NONE;
        }
        Entry e = t.entries.get(entry);
        if (in(what, 0, 5)) {
            return e.facts[what];
        }
        if (what == 6) {
            return e.name.length();
        }
        if (what == 7) {
            return known(e) ? 1 : 0;
        }
        if (what == 8) {
            List<TreeSet<Integer>> persons = persons();
            for (int p = 0; p < persons.size(); p++) {
                if (persons.get(p).contains(entry)) {
                    return p;
                }
            }
            return NONE;
        }
        return in(what, 10, 9 + e.name.length()) ? e.name.charAt(what - 10) - 'a' : NONE;
    }

    private static int distance(String a, String b, Map<String, Integer> seen) {
        if (a.isEmpty() || b.isEmpty()) {
            return a.length() + b.length();
        }
        String key = a + " " + b;
        Integer had = seen.get(key);
        if (had != null) {
            return had;
        }
        String c = a.substring(1);
        String d = b.substring(1);
        int least = distance(c, d, seen) + (a.charAt(0) == b.charAt(0) ? 0 : 1);
        least = Math.min(least, 1 + distance(c, b, seen));
        least = Math.min(least, 1 + distance(a, d, seen));
        seen.put(key, least);
        return least;
    }

    private boolean alikeBy(int k, Entry a, Entry b) {
        if (t.texts.get(k).isEmpty()) {
            return false;
        }
        Map<String, Integer> v = new HashMap<>();
        v.put("letters", distance(a.name, b.name, new HashMap<>()));
        v.put("first", a.name.charAt(0) == b.name.charAt(0) ? 1 : 0);
        v.put("ages", Math.abs(a.facts[5] - b.facts[5]));
        v.put("near", wayOf(a.facts[2], b.facts[2]));
        v.put("days", Math.abs(a.facts[3] - b.facts[3]));
        v.put("book", a.facts[0] == b.facts[0] && a.facts[1] == b.facts[1] ? 1 : 0);
        v.put("house", a.facts[2] == b.facts[2] ? 1 : 0);
        for (Line line : t.texts.get(k)) {
            if (line.when.is(v)) {
                return true;
            }
        }
        return false;
    }

    int alike(int a, int b, int what) {
        if (!isEntry(a) || !isEntry(b) || a == b || !in(what, 0, 3)) {
            return NONE;
        }
        Entry e = t.entries.get(a);
        Entry f = t.entries.get(b);
        if (what < 2) {
            return alikeBy(what, e, f) ? 1 : 0;
        }
        return what == 2 ? distance(e.name, f.name, new HashMap<>()) : wayOf(e.facts[2], f.facts[2]);
    }

    private boolean atHome(int house, int day, int minute) {
        House h = t.houses.get(house);
        Map<String, Integer> v = Map.of("hour", minute / 60, "day", day, "street", h.street, "number", h.number, "kind", h.kind);
        for (Line line : t.texts.get(2)) {
            if (line.when.is(v)) {
                return !line.away;
            }
        }
        return true;
    }

    int home(int house, int day, int minute) {
        if (!isHouse(house) || !in(day, 0, 99) || !in(minute, 0, 1439)) {
            return NONE;
        }
        return atHome(house, day, minute) ? 1 : 0;
    }

    /** Every entry alone at first; two sets that have alike ones become one, till none are left to join. */
    private List<TreeSet<Integer>> persons() {
        List<TreeSet<Integer>> sets = new ArrayList<>();
        for (Entry e : entries()) {
            TreeSet<Integer> one = new TreeSet<>(List.of(e.id));
            List<TreeSet<Integer>> others = new ArrayList<>();
            for (TreeSet<Integer> set : sets) {
                boolean joins = false;
                for (int f : set) {
                    joins = joins || alikeBy(0, t.entries.get(f), e);
                }
                if (joins) {
                    one.addAll(set);
                } else {
                    others.add(set);
                }
            }
            others.add(one);
            sets = others;
        }
        sets.sort((x, y) -> Integer.compare(x.first(), y.first()));
        return sets;
    }

    private int sort(Set<Integer> person) {
        boolean open = false;
        boolean secret = false;
        for (int e : person) {
            open = open || t.entries.get(e).facts[0] == 0;
            secret = secret || t.entries.get(e).facts[0] == 1;
        }
        return open && secret ? 2 : open ? 0 : 1;
    }

    private int houses(Set<Integer> person) {
        Set<Integer> set = new HashSet<>();
        for (int e : person) {
            set.add(t.entries.get(e).facts[2]);
        }
        return set.size();
    }

    int person(int p, int what) {
        List<TreeSet<Integer>> persons = persons();
        if (!in(p, 0, persons.size() - 1) || !in(what, 0, 3)) {
            return NONE;
        }
        TreeSet<Integer> person = persons.get(p);
        return what == 0 ? person.size() : what == 1 ? person.first() : what == 2 ? sort(person) : houses(person);
    }

    int table(int street, int what) {
        if (!in(street, NONE, 11) || !in(what, 0, 4)) {
            return NONE;
        }
        int[] many = new int[5];
        for (TreeSet<Integer> person : persons()) {
            int its = t.houses.get(t.entries.get(person.first()).facts[2]).street;
            if (street == NONE || street == its) {
                many[sort(person)]++;
                many[4] += houses(person) > 1 ? 1 : 0;
            }
        }
        many[3] = many[2] == 0 ? NONE : many[0] * many[1] / many[2];
        return many[what];
    }

    private boolean couple(int p, List<List<Integer>> can, Map<Integer, Integer> taken, Set<Integer> asked) {
        for (int q : can.get(p)) {
            if (asked.add(q) && (!taken.containsKey(q) || couple(taken.get(q), can, taken, asked))) {
                taken.put(q, p);
                return true;
            }
        }
        return false;
    }

    int ends(int what) {
        if (!in(what, 0, 1)) {
            return NONE;
        }
        List<TreeSet<Integer>> persons = persons();
        if (what == 1) {
            return persons.size();
        }
        List<List<Integer>> can = new ArrayList<>();
        for (int p = 0; p < persons.size(); p++) {
            List<Integer> with = new ArrayList<>();
            can.add(with);
            for (int q = 0; sort(persons.get(p)) == 0 && q < persons.size(); q++) {
                if (sort(persons.get(q)) == 1) {
                    boolean may = false;
                    for (int a : persons.get(p)) {
                        for (int b : persons.get(q)) {
                            may = may || alikeBy(1, t.entries.get(a), t.entries.get(b));
                        }
                    }
                    if (may) {
                        with.add(q);
                    }
                }
            }
        }
        Map<Integer, Integer> taken = new HashMap<>();
        int many = 0;
        for (int p = 0; p < persons.size(); p++) {
            if (couple(p, can, taken, new HashSet<>())) {
                many++;
            }
        }
        return persons.size() - many;
    }

    private static BigInteger factorial(int n) {
        BigInteger f = BigInteger.ONE;
        for (int i = 2; i <= n; i++) {
            f = f.multiply(BigInteger.valueOf(i));
        }
        return f;
    }

    private static BigInteger choose(int n, int k) {
        return k < 0 || k > n ? BigInteger.ZERO : factorial(n).divide(factorial(k)).divide(factorial(n - k));
    }

    long luck(int n, int a, int b, int k) {
        if (!in(n, 1, 60) || !in(a, 0, n) || !in(b, 0, n) || !in(k, 0, n)) {
            return NONE;
        }
        BigInteger sum = BigInteger.ZERO;
        for (int j = 0; j <= k; j++) {
            sum = sum.add(choose(a, j).multiply(choose(n - a, b - j)));
        }
        return sum.longValueExact();
    }

    private List<Entry> by(int c, int count) {
        List<Entry> list = entries();
        list.removeIf(e -> e.facts[1] != c || e.facts[0] != count);
        return list;
    }

    private int ghosts(int c) {
        List<Entry> list = by(c, 0);
        list.removeIf(e -> atHome(e.facts[2], e.facts[3], e.facts[4]));
        return list.size();
    }

    private int quick(int c, int count) {
        List<Entry> list = by(c, count);
        list.sort((e, f) -> e.facts[3] != f.facts[3] ? e.facts[3] - f.facts[3]
                : e.facts[4] != f.facts[4] ? e.facts[4] - f.facts[4] : e.id - f.id);
        int many = 0;
        for (int i = 1; i < list.size(); i++) {
            int[] e = list.get(i - 1).facts;
            int[] f = list.get(i).facts;
            if (e[3] == f[3] && e[2] != f[2] && f[4] - e[4] < minutesOf(e[2], f[2])) {
                many++;
            }
        }
        return many;
    }

    private List<Integer> digits(int c) {
        List<Integer> list = new ArrayList<>();
        for (Entry e : by(c, 0)) {
            if (list.size() < 15) {
                list.add(e.facts[5] % 10);
            }
        }
        return list;
    }

    private int evenness(int c) {
        int sum = 0;
        for (int d = 0; d < 10; d++) {
            int often = Collections.frequency(digits(c), d);
            sum += often * often;
        }
        return sum;
    }

    int counter(int c, int what) {
        if (!in(c, 0, 10) || !in(what, 0, 5)) {
            return NONE;
        }
        return what < 2 ? by(c, what).size() : what == 2 ? ghosts(c) : what == 5 ? evenness(c) : quick(c, what - 3);
    }

    /** All partitions of the row's length into ten parts or fewer, with the rows that have them. */
    private static BigInteger rows(int left, int most, int parts, int[] part, int limit) {
        if (left == 0) {
            int squares = 0;
            BigInteger ways = factorial(Arrays.stream(part).sum());
            Map<Integer, Integer> often = new HashMap<>();
            for (int p : part) {
                squares += p * p;
                ways = ways.divide(factorial(p));
                often.merge(p, 1, Integer::sum);
            }
            ways = ways.multiply(factorial(10));
            for (int many : often.values()) {
                ways = ways.divide(factorial(many));
            }
            return squares <= limit ? ways : BigInteger.ZERO;
        }
        BigInteger sum = BigInteger.ZERO;
        for (int p = Math.min(left, most); p >= 1 && parts < 10; p--) {
            part[parts] = p;
            sum = sum.add(rows(left - p, p, parts + 1, part, limit));
            part[parts] = 0;
        }
        return sum;
    }

    long even(int c) {
        if (!in(c, 0, 10)) {
            return NONE;
        }
        int n = digits(c).size();
        return rows(n, n, 0, new int[10], evenness(c)).longValueExact();
    }

    int suspect() {
        int who = NONE;
        int most = 0;
        for (int c = 10; c >= 0; c--) {
            int many = ghosts(c) + quick(c, 0);
            if (many >= most && many > 0) {
                who = c;
                most = many;
            }
        }
        return who;
    }

    int step(int i, int house, int minute) {
        if (!in(i, 0, Math.min(23, t.steps.size())) || !isHouse(house) || !in(minute, 0, 1439)) {
            return NONE;
        }
        t.steps = new ArrayList<>(t.steps.subList(0, i));
        t.steps.add(new int[] {house, minute});
        return t.steps.size();
    }

    int round(int day, int what) {
        if (!in(day, 0, 99) || !in(what, 0, 1)) {
            return NONE;
        }
        Set<Integer> seen = new HashSet<>();
        for (int i = 0; i < t.steps.size(); i++) {
            int[] step = t.steps.get(i);
            boolean right = atHome(step[0], day, step[1]);
            if (i > 0) {
                int[] ahead = t.steps.get(i - 1);
                right = right && step[1] >= ahead[1] + minutesOf(ahead[0], step[0]);
            }
            if (!right) {
                return what == 0 ? i : seen.size();
            }
            seen.add(step[0]);
        }
        return what == 0 ? NONE : seen.size();
    }

    boolean last(int what, int i, int v) {
        if (what == 0 && in(i, 0, 4) && in(v, NONE, 11)) {
            for (int s = 0; s < 5; s++) {
                if (v != NONE && s != i && t.streets[s] == v) {
                    return false;
                }
            }
            t.streets[i] = v;
            return true;
        }
        if (what == 1 && in(i, 0, 5) && in(v, 0, 9)) {
            t.strengths[i] = v;
            return true;
        }
        if (what == 2 && in(v, 1, 4)) {
            t.days = v;
            return true;
        }
        if (what == 3 && in(v, 1, 6)) {
            t.counters = v;
            return true;
        }
        return false;
    }

    boolean closed(int slot, int day, boolean is) {
        if (!in(slot, 0, 4) || !in(day, 0, 3)) {
            return false;
        }
        if (is) {
            t.closed.add(slot * 10 + day);
        } else {
            t.closed.remove(slot * 10 + day);
        }
        return true;
    }

    boolean plan(int counter, int day, int slot) {
        if (!in(counter, 0, 5) || !in(day, 0, 3) || !in(slot, NONE, 4)) {
            return false;
        }
        t.plan.put(counter * 10 + day, slot);
        return true;
    }

    private List<Integer> missed() {
        List<Integer> list = new ArrayList<>();
        for (int h = 0; h < t.houses.size(); h++) {
            boolean has = false;
            for (Entry e : entries()) {
                has = has || e.facts[2] == h;
            }
            if (!has) {
                list.add(h);
            }
        }
        return list;
    }

    private int missed(int street) {
        int many = 0;
        for (int h : missed()) {
            many += t.houses.get(h).street == street ? 1 : 0;
        }
        return many;
    }

    private int[] lefts() {
        int[] left = new int[5];
        for (int s = 0; s < 5; s++) {
            left[s] = t.streets[s] == NONE ? 0 : Math.min(9, missed(t.streets[s]));
        }
        return left;
    }

    int planned() {
        int[] left = lefts();
        int seen = 0;
        for (int d = 0; d < t.days; d++) {
            for (int c = 0; c < t.counters; c++) {
                int slot = t.plan.getOrDefault(c * 10 + d, NONE);
                if (slot != NONE && !t.closed.contains(slot * 10 + d)) {
                    int more = Math.min(left[slot], t.strengths[c]);
                    left[slot] -= more;
                    seen += more;
                }
            }
        }
        return seen;
    }

    int best() {
        return best(0, 0, lefts(), new HashMap<>());
    }

    /** Every plan, none left out: also those in which a counter stays though he could go. */
    private int best(int d, int c, int[] left, Map<String, Integer> seen) {
        if (d == t.days) {
            return 0;
        }
        if (c == t.counters) {
            return best(d + 1, 0, left, seen);
        }
        String key = d + " " + c + Arrays.toString(left);
        Integer had = seen.get(key);
        if (had != null) {
            return had;
        }
        int most = best(d, c + 1, left, seen);
        for (int s = 0; s < 5; s++) {
            int more = Math.min(left[s], t.strengths[c]);
            if (more > 0 && !t.closed.contains(s * 10 + d)) {
                left[s] -= more;
                most = Math.max(most, more + best(d, c + 1, left, seen));
                left[s] += more;
            }
        }
        seen.put(key, most);
        return most;
    }

    long lots(int k) {
        List<Integer> left = missed();
        if (!in(k, 0, left.size())) {
            return NONE;
        }
        long set = 0;
        for (int i = 0; i < k; i++) {
            set |= 1L << left.remove(draw(left.size()));
        }
        return set;
    }

    boolean image(boolean taken) {
        if (taken) {
            kept = t.copy();
            return true;
        }
        if (kept == null) {
            return false;
        }
        t = kept.copy();
        return true;
    }

    int look(int what) {
        switch (what) {
            case 0:
                return t.houses.size();
            case 1:
                return t.entries.size();
            case 2:
                return entries().size();
            case 3:
                return t.time;
            case 4:
                return t.view;
            case 5:
                return persons().size();
            case 6:
                return missed().size();
            case 7:
                return t.steps.size();
            case 8:
                return t.state;
            case 50:
                return t.days;
            case 51:
                return t.counters;
            default:
                return in(what, 10, 21) ? missed(what - 10) : in(what, 30, 34) ? t.streets[what - 30]
                        : in(what, 40, 45) ? t.strengths[what - 40] : NONE;
        }
    }
}
