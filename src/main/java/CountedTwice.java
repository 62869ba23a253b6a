import java.util.Arrays;

/**
 * Houses, the books of an open count and of a secret one, and what can be told from both together.
 * The numbered promises of the document say what each public method answers.
 */
public final class CountedTwice {
    public static final int NONE = -1;

    private static final int HOUSES_MOST = 60;
    private static final int STREETS = 12;
    private static final int NUMBERS = 1000;
    private static final int KINDS = 10;
    private static final int GAPS = 1000;
    private static final int RATES = 100;
    private static final int ENTRIES_MOST = 120;
    private static final int COUNTS = 2;
    private static final int COUNTERS = 11;
    private static final int DAYS = 100;
    private static final int MINUTES = 1440;
    private static final int AGES = 120;
    private static final int NAME_MOST = 8;
    private static final int TAPE_MOST = 400;
    private static final int FEED_BYTES = 20;
    private static final int PEOPLE_MOST = 60;
    private static final int STEPS_MOST = 24;

    private static final int SAME = 0;
    private static final int MAYBE = 1;
    private static final int HOME = 2;
    private static final int TEXTS = 3;

    private static final int SLOTS = 5;
    private static final int LAST_DAYS_MOST = 4;
    private static final int LAST_COUNTERS_MOST = 6;
    private static final int STRENGTHS = 10;
    private static final int MISSED_COUNTED = 9;

    private final World now;
    private final World kept;
    private boolean isKept;
    private final byte[] tape;
    private int tapeLength;
    private int faultKind;
    private int faultPlace;
    private final Parser parser;
    private final Likeness likeness;
    private final Persons persons;
    private final Checks checks;
    private final Search search;
    private final int[] slotMissed;

    public CountedTwice() {
        now = new World();
        kept = new World();
        isKept = false;
        tape = new byte[TAPE_MOST];
        tapeLength = 0;
        faultKind = 0;
        faultPlace = NONE;
        parser = new Parser();
        likeness = new Likeness(now);
        persons = new Persons(now, likeness);
        checks = new Checks(now);
        search = new Search();
        slotMissed = new int[SLOTS];
    }

    public int state(int v) {
        int was = now.draws;
        now.draws = v;
        return was;
    }

    public int house(int street, int number, int kind) {
        if (!below(street, STREETS) || !below(number, NUMBERS) || !below(kind, KINDS)) {
            return NONE;
        }
        return now.town.build(street, number, kind);
    }

    public boolean gap(int a, int b, int v) {
        if (!below(a, STREETS) || !below(b, STREETS) || a == b || !below(v, GAPS)) {
            return false;
        }
        now.town.setGap(a, b, v);
        likeness.forget();
        persons.forget();
        return true;
    }

    public boolean set(int what, int v) {
        if (!below(v, RATES) || !below(what, 2)) {
            return false;
        }
        if (what == 0) {
            now.town.pace = v;
        } else {
            now.town.sit = v;
        }
        return true;
    }

    public int way(int a, int b, int what) {
        if (!below(a, now.town.houses) || !below(b, now.town.houses)) {
            return NONE;
        }
        switch (what) {
            case 0:
                return now.town.wayBetween(a, b);
            case 1:
                return now.town.minutesBetween(a, b);
            default:
                return NONE;
        }
    }

    public int feed(int a, int b, int c, int d, int e) {
        if (tapeLength + FEED_BYTES > TAPE_MOST) {
            return NONE;
        }
        feedNumber(a);
        feedNumber(b);
        feedNumber(c);
        feedNumber(d);
        feedNumber(e);
        return tapeLength;
    }

    private void feedNumber(int number) {
        for (int shift = 24; shift >= 0; shift -= 8) {
            if (tapeLength < tape.length) {
                tape[tapeLength] = (byte) (number >>> shift);
                tapeLength++;
            }
        }
    }

    public boolean end(int n) {
        if (n < 0 || n > tapeLength) {
            return false;
        }
        tapeLength = n;
        return true;
    }

    public int text(int k) {
        int length = tapeLength;
        tapeLength = 0;
        faultKind = 0;
        faultPlace = NONE;
        if (!below(k, TEXTS)) {
            return NONE;
        }
        parser.read(tape, length, k == HOME);
        parser.parse();
        faultKind = parser.fault;
        faultPlace = parser.faultPlace;
        if (faultKind != 0) {
            return NONE;
        }
        Text text = now.textOf(k);
        text.take(parser);
        likeness.forget();
        persons.forget();
        return text.lines;
    }

    public int fault(int what) {
        switch (what) {
            case 0:
                return faultKind;
            case 1:
                return faultPlace;
            default:
                return NONE;
        }
    }

    public int entry(int count, int counter, int house, int day, int minute, int age) {
        int length = tapeLength;
        tapeLength = 0;
        boolean placed = below(count, COUNTS) && below(counter, COUNTERS) && below(house, now.town.houses);
        boolean timed = below(day, DAYS) && below(minute, MINUTES) && below(age, AGES);
        if (!placed || !timed || !isName(length) || now.book.told >= ENTRIES_MOST) {
            return NONE;
        }
        now.book.sign(tape, length);
        persons.forget();
        return now.book.write(count, counter, house, day, minute, age);
    }

    private boolean isName(int length) {
        if (length < 1 || length > NAME_MOST) {
            return false;
        }
        for (int i = 0; i < length; i++) {
            if (!isSmallLetter(tape[i])) {
                return false;
            }
        }
        return true;
    }

    public boolean voids(int entry) {
        if (!below(entry, now.book.told) || now.book.isVoid(entry)) {
            return false;
        }
        now.book.strike(entry);
        persons.forget();
        return true;
    }

    public boolean view(int time) {
        if (time < NONE || time > now.book.time) {
            return false;
        }
        now.book.seenFrom = time;
        persons.forget();
        return true;
    }

    public int of(int entry, int what) {
        Book book = now.book;
        if (!below(entry, book.told) || what < 0) {
            return NONE;
        }
        if (what < Book.FACTS) {
            return book.fact(entry, what);
        }
        switch (what) {
            case 6:
                return book.nameLength(entry);
            case 7:
                return book.isKnown(entry) ? 1 : 0;
            case 8:
                persons.refresh();
                return persons.ofEntry(entry);
            default:
                return below(what - 10, book.nameLength(entry)) ? book.letter(entry, what - 10) : NONE;
        }
    }

    public int alike(int a, int b, int what) {
        if (!below(a, now.book.told) || !below(b, now.book.told) || a == b) {
            return NONE;
        }
        switch (what) {
            case SAME:
            case MAYBE:
                return likeness.agree(what, a, b) ? 1 : 0;
            case 2:
                return likeness.lettersApart(a, b);
            case 3:
                return likeness.wayApart(a, b);
            default:
                return NONE;
        }
    }

    public int home(int house, int day, int minute) {
        if (!below(house, now.town.houses) || !below(day, DAYS) || !below(minute, MINUTES)) {
            return NONE;
        }
        return now.somebodyHome(house, day, minute) ? 1 : 0;
    }

    public int person(int p, int what) {
        persons.refresh();
        switch (what) {
            case 0:
                return persons.entriesOf(p);
            case 1:
                return persons.leastOf(p);
            case 2:
                return persons.sortOf(p);
            case 3:
                return persons.housesOf(p);
            default:
                return NONE;
        }
    }

    public int table(int street, int what) {
        if (street != NONE && !below(street, STREETS)) {
            return NONE;
        }
        persons.refresh();
        switch (what) {
            case 0:
            case 1:
            case 2:
                return persons.manyOfSort(street, what);
            case 3:
                return persons.missedByBoth(street);
            case 4:
                return persons.doubles(street);
            default:
                return NONE;
        }
    }

    public int ends(int what) {
        persons.refresh();
        switch (what) {
            case 0:
                return persons.size - persons.mostCouples();
            case 1:
                return persons.size;
            default:
                return NONE;
        }
    }

    public long luck(int n, int a, int b, int k) {
        if (n < 1 || n > PEOPLE_MOST || !below(a, n + 1) || !below(b, n + 1) || !below(k, n + 1)) {
            return NONE;
        }
        long ways = 0L;
        for (int both = 0; both <= k && both <= b; both++) {
            ways += choose(a, both) * choose(n - a, b - both);
        }
        return ways;
    }

    public int counter(int c, int what) {
        if (!below(c, COUNTERS)) {
            return NONE;
        }
        switch (what) {
            case 0:
            case 1:
                return checks.entriesOf(c, what);
            case 2:
                return checks.ghosts(c);
            case 3:
            case 4:
                return checks.quick(c, what - 3);
            case 5:
                return checks.evenness(c);
            default:
                return NONE;
        }
    }

    public long even(int c) {
        return below(c, COUNTERS) ? checks.evenWays(c) : NONE;
    }

    public int suspect() {
        return checks.mostSuspicious();
    }

    public int step(int i, int house, int minute) {
        boolean placed = i >= 0 && i <= now.round.steps && i < STEPS_MOST;
        if (!placed || !below(house, now.town.houses) || !below(minute, MINUTES)) {
            return NONE;
        }
        return now.round.put(i, house, minute);
    }

    public int round(int day, int what) {
        if (!below(day, DAYS)) {
            return NONE;
        }
        switch (what) {
            case 0:
                return now.round.firstWrong(now, day);
            case 1:
                return now.round.seen(now, day);
            default:
                return NONE;
        }
    }

    public boolean last(int what, int i, int v) {
        switch (what) {
            case 0:
                return now.last.giveStreet(i, v);
            case 1:
                return now.last.giveStrength(i, v);
            case 2:
                return now.last.giveDays(v);
            case 3:
                return now.last.giveCounters(v);
            default:
                return false;
        }
    }

    public boolean closed(int slot, int day, boolean is) {
        if (!below(slot, SLOTS) || !below(day, LAST_DAYS_MOST)) {
            return false;
        }
        now.last.close(slot, day, is);
        return true;
    }

    public boolean plan(int counter, int day, int slot) {
        boolean isSlot = slot == NONE || below(slot, SLOTS);
        if (!below(counter, LAST_COUNTERS_MOST) || !below(day, LAST_DAYS_MOST) || !isSlot) {
            return false;
        }
        now.last.send(counter, day, slot);
        return true;
    }

    public int planned() {
        now.countSlots(slotMissed);
        return now.last.seenByPlan(slotMissed);
    }

    public int best() {
        now.countSlots(slotMissed);
        return search.mostSeen(now.last, slotMissed);
    }

    public long lots(int k) {
        long left = now.missed();
        int many = Long.bitCount(left);
        if (k < 0 || k > many) {
            return NONE;
        }
        long chosen = 0L;
        for (int i = 0; i < k; i++) {
            long house = bitInOrder(left, now.draw(many - i));
            chosen |= house;
            left &= ~house;
        }
        return chosen;
    }

    public boolean image(boolean taken) {
        if (taken) {
            kept.copyFrom(now);
            isKept = true;
        } else if (isKept) {
            now.copyFrom(kept);
            likeness.forget();
            persons.forget();
        }
        return isKept;
    }

    public int look(int what) {
        switch (what) {
            case 0:
                return now.town.houses;
            case 1:
                return now.book.told;
            case 2:
                return now.book.knownEntries();
            case 3:
                return now.book.time;
            case 4:
                return now.book.seenFrom;
            case 5:
                persons.refresh();
                return persons.size;
            case 6:
                return Long.bitCount(now.missed());
            case 7:
                return now.round.steps;
            case 8:
                return now.draws;
            case 50:
                return now.last.days;
            case 51:
                return now.last.counters;
            default:
                return lookInRow(what);
        }
    }

    private int lookInRow(int what) {
        if (what >= 10 && what < 10 + STREETS) {
            return now.missedIn(what - 10);
        }
        if (what >= 30 && what < 30 + SLOTS) {
            return now.last.streets[what - 30];
        }
        if (what >= 40 && what < 40 + LAST_COUNTERS_MOST) {
            return now.last.strengths[what - 40];
        }
        return NONE;
    }

    private static boolean below(int v, int bound) {
        return v >= 0 && v < bound;
    }

    private static boolean isSmallLetter(int sign) {
        return sign >= 'a' && sign <= 'z';
    }

    /** No keyword has a capital, but one that stands with other letters belongs to their token. */
    private static boolean isLetter(int sign) {
        return isSmallLetter(sign) || sign >= 'A' && sign <= 'Z';
    }

    private static boolean isDigit(int sign) {
        return sign >= '0' && sign <= '9';
    }

    private static boolean hasBit(long[] row, int i) {
        int word = i >> 6;
        return below(word, row.length) && (row[word] >>> (i & 63) & 1L) != 0L;
    }

    private static void setBit(long[] row, int i) {
        int word = i >> 6;
        if (below(word, row.length)) {
            row[word] |= 1L << (i & 63);
        }
    }

    /** The set of the one member of a set that has so many lower ones ahead of it; empty if there is none. */
    private static long bitInOrder(long set, int ahead) {
        long left = set;
        for (int i = 0; i < ahead && left != 0L; i++) {
            left &= left - 1L;
        }
        return left & -left;
    }

    /** Each product here is below 60 times C(59, 29), which a long holds. */
    private static long choose(int n, int k) {
        if (k < 0 || k > n) {
            return 0L;
        }
        long ways = 1L;
        for (int i = 1; i <= k; i++) {
            ways = ways * (n - k + i) / i;
        }
        return ways;
    }

    /** All that the image holds: it is copied in place, so that going back makes no objects. */
    private static final class World {
        int draws;
        final Town town;
        final Book book;
        private final Text same;
        private final Text maybe;
        private final Text home;
        final Round round;
        final LastDays last;
        private final int[] given;

        World() {
            draws = 0;
            town = new Town();
            book = new Book();
            same = new Text();
            maybe = new Text();
            home = new Text();
            round = new Round();
            last = new LastDays();
            given = new int[Text.VALUES];
        }

        void copyFrom(World other) {
            draws = other.draws;
            town.copyFrom(other.town);
            book.copyFrom(other.book);
            same.copyFrom(other.same);
            maybe.copyFrom(other.maybe);
            home.copyFrom(other.home);
            round.copyFrom(other.round);
            last.copyFrom(other.last);
        }

        Text textOf(int k) {
            switch (k) {
                case SAME:
                    return same;
                case MAYBE:
                    return maybe;
                default:
                    return home;
            }
        }

        int draw(int m) {
            draws = 1664525 * draws + 1013904223;
            return m > 0 ? (draws >>> 8) % m : 0;
        }

        boolean somebodyHome(int house, int day, int minute) {
            given[0] = minute / 60;
            given[1] = day;
            given[2] = town.streetOf(house);
            given[3] = town.numberOf(house);
            given[4] = town.kindOf(house);
            return home.firstLine(given) != Text.AWAY;
        }

        /** The houses without an entry, as bits. */
        long missed() {
            long seen = 0L;
            for (int e = 0; e < book.told; e++) {
                if (book.isKnown(e)) {
                    seen |= 1L << book.fact(e, Book.HOUSE);
                }
            }
            return ((1L << town.houses) - 1L) & ~seen;
        }

        int missedIn(int street) {
            return Long.bitCount(missed() & town.housesIn(street));
        }

        void countSlots(int[] counts) {
            long left = missed();
            for (int s = 0; s < SLOTS; s++) {
                int street = last.streets[s];
                int here = street == NONE ? 0 : Long.bitCount(left & town.housesIn(street));
                counts[s] = Math.min(MISSED_COUNTED, here);
            }
        }
    }

    /** The houses, and how far they are from one another. */
    private static final class Town {
        int houses;
        int pace;
        int sit;
        private final int[] streets;
        private final int[] numbers;
        private final int[] kinds;
        private final int[] gaps;

        Town() {
            houses = 0;
            pace = 2;
            sit = 5;
            streets = new int[HOUSES_MOST];
            numbers = new int[HOUSES_MOST];
            kinds = new int[HOUSES_MOST];
            gaps = new int[STREETS * STREETS];
            Arrays.fill(gaps, 100);
        }

        void copyFrom(Town other) {
            houses = other.houses;
            pace = other.pace;
            sit = other.sit;
            System.arraycopy(other.streets, 0, streets, 0, HOUSES_MOST);
            System.arraycopy(other.numbers, 0, numbers, 0, HOUSES_MOST);
            System.arraycopy(other.kinds, 0, kinds, 0, HOUSES_MOST);
            System.arraycopy(other.gaps, 0, gaps, 0, STREETS * STREETS);
        }

        int build(int street, int number, int kind) {
            if (houses >= HOUSES_MOST) {
                return NONE;
            }
            streets[houses] = street;
            numbers[houses] = number;
            kinds[houses] = kind;
            houses++;
            return houses - 1;
        }

        int streetOf(int house) {
            return below(house, houses) ? streets[house] : NONE;
        }

        int numberOf(int house) {
            return below(house, houses) ? numbers[house] : NONE;
        }

        int kindOf(int house) {
            return below(house, houses) ? kinds[house] : NONE;
        }

        void setGap(int a, int b, int v) {
            if (below(a, STREETS) && below(b, STREETS)) {
                gaps[a * STREETS + b] = v;
                gaps[b * STREETS + a] = v;
            }
        }

        int wayBetween(int a, int b) {
            if (!below(a, houses) || !below(b, houses)) {
                return NONE;
            }
            if (streets[a] == streets[b]) {
                return Math.abs(numbers[a] - numbers[b]);
            }
            return numbers[a] + numbers[b] + gaps[streets[a] * STREETS + streets[b]];
        }

        int minutesBetween(int a, int b) {
            return wayBetween(a, b) * pace / 100 + sit;
        }

        long housesIn(int street) {
            long set = 0L;
            for (int h = 0; h < houses; h++) {
                if (streets[h] == street) {
                    set |= 1L << h;
                }
            }
            return set;
        }
    }

    /** The entries and voids as they were told, and the time they are seen from. */
    private static final class Book {
        static final int FACTS = 6;
        static final int COUNT = 0;
        static final int COUNTER = 1;
        static final int HOUSE = 2;
        static final int DAY = 3;
        static final int MINUTE = 4;
        static final int AGE = 5;

        int told;
        int time;
        int seenFrom;
        private final int[] facts;
        private final int[] knownFrom;
        private final int[] knownTill;
        private final int[] lengths;
        private final byte[] letters;

        Book() {
            told = 0;
            time = 0;
            seenFrom = NONE;
            facts = new int[ENTRIES_MOST * FACTS];
            knownFrom = new int[ENTRIES_MOST];
            knownTill = new int[ENTRIES_MOST];
            lengths = new int[ENTRIES_MOST];
            letters = new byte[ENTRIES_MOST * NAME_MOST];
        }

        void copyFrom(Book other) {
            told = other.told;
            time = other.time;
            seenFrom = other.seenFrom;
            System.arraycopy(other.facts, 0, facts, 0, ENTRIES_MOST * FACTS);
            System.arraycopy(other.knownFrom, 0, knownFrom, 0, ENTRIES_MOST);
            System.arraycopy(other.knownTill, 0, knownTill, 0, ENTRIES_MOST);
            System.arraycopy(other.lengths, 0, lengths, 0, ENTRIES_MOST);
            System.arraycopy(other.letters, 0, letters, 0, ENTRIES_MOST * NAME_MOST);
        }

        /** Names the entry that is written next. */
        void sign(byte[] tape, int length) {
            if (told >= ENTRIES_MOST) {
                return;
            }
            lengths[told] = Math.min(length, NAME_MOST);
            for (int i = 0; i < NAME_MOST; i++) {
                letters[told * NAME_MOST + i] = i < length && i < tape.length ? (byte) (tape[i] - 'a') : 0;
            }
        }

        int write(int count, int counter, int house, int day, int minute, int age) {
            if (told >= ENTRIES_MOST) {
                return NONE;
            }
            int at = told * FACTS;
            facts[at + COUNT] = count;
            facts[at + COUNTER] = counter;
            facts[at + HOUSE] = house;
            facts[at + DAY] = day;
            facts[at + MINUTE] = minute;
            facts[at + AGE] = age;
            time++;
            knownFrom[told] = time;
            knownTill[told] = NONE;
            told++;
            return told - 1;
        }

        void strike(int e) {
            if (below(e, told)) {
                time++;
                knownTill[e] = time;
            }
        }

        boolean isVoid(int e) {
            return below(e, told) && knownTill[e] != NONE;
        }

        boolean isKnown(int e) {
            int at = seenFrom == NONE ? time : seenFrom;
            return below(e, told) && knownFrom[e] <= at && (knownTill[e] == NONE || at < knownTill[e]);
        }

        int knownEntries() {
            int many = 0;
            for (int e = 0; e < told; e++) {
                if (isKnown(e)) {
                    many++;
                }
            }
            return many;
        }

        int fact(int e, int what) {
            return below(e, told) && below(what, FACTS) ? facts[e * FACTS + what] : NONE;
        }

        int nameLength(int e) {
            return below(e, told) ? lengths[e] : 0;
        }

        int letter(int e, int k) {
            return below(e, told) && below(k, NAME_MOST) ? letters[e * NAME_MOST + k] : NONE;
        }
    }

    /** The lines of a text, as words for a machine with a stack: what an operator needs stands ahead of it. */
    private static final class Text {
        static final int VALUES = 7;
        static final int AWAY = 1;

        // A word is a number itself, or one of these and what it is about.
        static final int VALUE = 10000;
        static final int OPERATOR = 20000;
        static final int LINE_END = 30000;

        // Eight open brackets with an "or" and an "and" each wait at most, and one sum.
        private static final int STACK_MOST = 32;

        int lines;
        private final int[] words;
        private int length;
        private final int[] stack;

        Text() {
            lines = 0;
            words = new int[TAPE_MOST];
            length = 0;
            stack = new int[STACK_MOST];
        }

        void copyFrom(Text other) {
            lines = other.lines;
            length = other.length;
            System.arraycopy(other.words, 0, words, 0, TAPE_MOST);
        }

        void take(Parser parser) {
            lines = parser.lines;
            length = parser.length;
            System.arraycopy(parser.words, 0, words, 0, TAPE_MOST);
        }

        /** What the first line that is so begins with (0 like or home, AWAY), or NONE. */
        int firstLine(int[] values) {
            int top = 0;
            for (int i = 0; i < length && i < TAPE_MOST; i++) {
                int word = words[i];
                if (word >= LINE_END) {
                    if (stack[0] != 0) {
                        return word - LINE_END;
                    }
                    top = 0;
                } else if (word >= OPERATOR) {
                    top = operate(word - OPERATOR, top);
                } else if (top < STACK_MOST) {
                    stack[top] = word < VALUE ? word : valueOf(word - VALUE, values);
                    top++;
                }
            }
            return NONE;
        }

        private static int valueOf(int i, int[] values) {
            return below(i, values.length) ? values[i] : 0;
        }

        /** Does what the sign says with what is on top of the stack: how high it is then. */
        private int operate(int sign, int top) {
            if (sign == Parser.NOT) {
                if (below(top - 1, STACK_MOST)) {
                    stack[top - 1] = 1 - stack[top - 1];
                }
                return top;
            }
            if (top < 2 || top > STACK_MOST) {
                return top;
            }
            stack[top - 2] = joined(sign, stack[top - 2], stack[top - 1]);
            return top - 1;
        }

        private static int joined(int sign, int left, int right) {
            switch (sign) {
                case Parser.OR:
                    return left | right;
                case Parser.AND:
                    return left & right;
                case '+':
                    return left + right;
                case '-':
                    return left - right;
                case '*':
                    return left * right;
                case '/':
                    return right == 0 ? 0 : left / right;
                case '<':
                    return left < right ? 1 : 0;
                case '=':
                    return left == right ? 1 : 0;
                case '>':
                    return left > right ? 1 : 0;
                default:
                    return 0;
            }
        }
    }

    /** Reads a tape as a text: its tokens first, then its lines, until the first fault. */
    private static final class Parser {
        static final int WHEN = 2;
        static final int OR = 3;
        static final int AND = 4;
        static final int NOT = 5;

        // A keyword's kind is its place in these rows; no token can be the "-", which keeps places alike.
        private static final String LIKE_WORDS = "like - when or and not letters first ages near days book house";
        private static final String HOME_WORDS = "home away when or and not hour day street number kind";
        private static final int FIRST_VALUE = 6;
        private static final int NUMBER = 20;
        private static final int TAPE_END = 21;
        private static final int UNKNOWN = 22;
        // A sign's kind is the sign itself; all are above the kinds told here.
        private static final String SIGNS = ";+-*/()<=>";

        private static final int DIGITS_MOST = 4;
        private static final int LINES_MOST = 16;
        private static final int OPEN_MOST = 8;
        private static final int MISPLACED = 1;
        private static final int PART_BY_0 = 2;
        private static final int TOO_MUCH = 3;

        int fault;
        int faultPlace;
        int lines;
        int length;
        final int[] words;
        private final int[] kinds;
        private final int[] places;
        private final int[] numbers;
        private int tokens;
        private int at;

        Parser() {
            fault = 0;
            faultPlace = NONE;
            lines = 0;
            length = 0;
            words = new int[TAPE_MOST];
            kinds = new int[TAPE_MOST + 1];
            places = new int[TAPE_MOST + 1];
            numbers = new int[TAPE_MOST + 1];
            tokens = 0;
            at = 0;
        }

        void read(byte[] tape, int tapeLength, boolean isHome) {
            String keywords = isHome ? HOME_WORDS : LIKE_WORDS;
            int end = Math.min(tapeLength, TAPE_MOST);
            tokens = 0;
            int from = 0;
            for (int i = 0; i < TAPE_MOST && from < end; i++) {
                int to = tokenEnd(tape, from, end);
                if (tape[from] != ' ' && tape[from] != '\n') {
                    places[tokens] = from;
                    numbers[tokens] = numberIn(tape, from, to);
                    kinds[tokens] = kindOf(tape, from, to, keywords);
                    tokens++;
                }
                from = to;
            }
            places[tokens] = end;
            kinds[tokens] = TAPE_END;
        }

        private static int tokenEnd(byte[] tape, int from, int end) {
            boolean word = isLetter(tape[from]);
            boolean number = isDigit(tape[from]);
            int to = from + 1;
            while (to < end && (word && isLetter(tape[to]) || number && isDigit(tape[to]))) {
                to++;
            }
            return to;
        }

        private static int kindOf(byte[] tape, int from, int to, String keywords) {
            int sign = tape[from];
            if (isLetter(sign)) {
                return keyword(tape, from, to, keywords);
            }
            if (isDigit(sign)) {
                return to - from <= DIGITS_MOST ? NUMBER : UNKNOWN;
            }
            return sign > 0 && SIGNS.indexOf((char) sign) >= 0 ? sign : UNKNOWN;
        }

        private static int keyword(byte[] tape, int from, int to, String keywords) {
            int place = 0;
            int next = from;
            for (int i = 0; i <= keywords.length(); i++) {
                char sign = i < keywords.length() ? keywords.charAt(i) : ' ';
                if (sign != ' ') {
                    // Beyond its end a word that differs can't come back to it.
                    next = next < to && tape[next] == sign ? next + 1 : to + 1;
                } else if (next == to) {
                    return place;
                } else {
                    place++;
                    next = from;
                }
            }
            return UNKNOWN;
        }

        private static int numberIn(byte[] tape, int from, int to) {
            int number = 0;
            for (int i = from; i < to && i < from + DIGITS_MOST; i++) {
                number = number * 10 + (tape[i] - '0');
            }
            return number;
        }

        void parse() {
            at = 0;
            fault = 0;
            faultPlace = NONE;
            length = 0;
            lines = 0;
            for (int i = 0; i <= LINES_MOST && fault == 0 && kind() != TAPE_END; i++) {
                int beginning = kind();
                if (beginning >= WHEN) {
                    refuse(MISPLACED);
                } else if (lines == LINES_MOST) {
                    refuse(TOO_MUCH);
                } else {
                    at++;
                    pass(WHEN);
                    readAny(0);
                    pass(';');
                    emit(Text.LINE_END + beginning);
                    lines++;
                }
            }
        }

        /** B: conditions joined by "and", such rows joined by "or". */
        private void readAny(int open) {
            boolean more = true;
            for (int i = 0; i < TAPE_MOST && more && fault == 0; i++) {
                readOne(open);
                for (int j = 0; j < TAPE_MOST && fault == 0 && kind() == AND; j++) {
                    at++;
                    readOne(open);
                    emit(Text.OPERATOR + AND);
                }
                if (i > 0) {
                    emit(Text.OPERATOR + OR);
                }
                more = kind() == OR;
                if (more && fault == 0) {
                    at++;
                }
            }
        }

        /** C: with so many brackets and "not" open around it. */
        private void readOne(int open) {
            int kind = kind();
            if (fault != 0) {
                return;
            }
            if (kind == NOT || kind == '(') {
                if (open >= OPEN_MOST) {
                    refuse(TOO_MUCH);
                    return;
                }
                at++;
                if (kind == NOT) {
                    readOne(open + 1);
                    emit(Text.OPERATOR + NOT);
                } else {
                    readAny(open + 1);
                    pass(')');
                }
                return;
            }
            readSum();
            int sign = kind();
            if (sign == '<' || sign == '=' || sign == '>') {
                pass(sign);
                readSum();
                emit(Text.OPERATOR + sign);
            } else {
                refuse(MISPLACED);
            }
        }

        private void readSum() {
            readProduct();
            for (int i = 0; i < TAPE_MOST && fault == 0 && (kind() == '+' || kind() == '-'); i++) {
                int sign = kind();
                at++;
                readProduct();
                emit(Text.OPERATOR + sign);
            }
        }

        private void readProduct() {
            readUnit();
            for (int i = 0; i < TAPE_MOST && fault == 0 && (kind() == '*' || kind() == '/'); i++) {
                int sign = kind();
                at++;
                if (sign == '/' && kind() != NUMBER) {
                    refuse(MISPLACED);
                } else if (sign == '/' && number() == 0) {
                    refuse(PART_BY_0);
                } else {
                    readUnit();
                }
                emit(Text.OPERATOR + sign);
            }
        }

        private void readUnit() {
            int kind = kind();
            if (kind == NUMBER) {
                emit(number());
                at++;
            } else if (kind >= FIRST_VALUE && kind < NUMBER) {
                emit(Text.VALUE + kind - FIRST_VALUE);
                at++;
            } else {
                refuse(MISPLACED);
            }
        }

        private int kind() {
            return at >= 0 && at < kinds.length ? kinds[at] : TAPE_END;
        }

        private int number() {
            return at >= 0 && at < numbers.length ? numbers[at] : 0;
        }

        private void pass(int kind) {
            if (fault != 0) {
                return;
            }
            if (kind() == kind) {
                at++;
            } else {
                refuse(MISPLACED);
            }
        }

        /** The first fault stays: all that is met behind it comes of it. */
        private void refuse(int kind) {
            if (fault == 0) {
                fault = kind;
                faultPlace = at >= 0 && at < places.length ? places[at] : NONE;
            }
        }

        private void emit(int word) {
            if (fault == 0 && length < words.length) {
                words[length] = word;
                length++;
            }
        }
    }

    /** Which two entries are alike, remembered till a text, a gap or the entries themselves are others. */
    private static final class Likeness {
        private static final int PAIRS = ENTRIES_MOST * (ENTRIES_MOST - 1) / 2;
        private static final int PAIR_WORDS = (2 * PAIRS + 63) / 64;

        private final World world;
        private final int[] given;
        private final int[] fewest;
        private final long[] asked;
        private final long[] agreed;

        Likeness(World world) {
            this.world = world;
            given = new int[Text.VALUES];
            fewest = new int[NAME_MOST + 1];
            asked = new long[PAIR_WORDS];
            agreed = new long[PAIR_WORDS];
        }

        void forget() {
            Arrays.fill(asked, 0L);
            Arrays.fill(agreed, 0L);
        }

        boolean agree(int k, int a, int b) {
            Text text = world.textOf(k);
            if (text.lines == 0) {
                return false;
            }
            int high = Math.max(a, b);
            int pair = k * PAIRS + high * (high - 1) / 2 + Math.min(a, b);
            if (!hasBit(asked, pair)) {
                setBit(asked, pair);
                compare(a, b);
                if (text.firstLine(given) != NONE) {
                    setBit(agreed, pair);
                }
            }
            return hasBit(agreed, pair);
        }

        private void compare(int a, int b) {
            Book book = world.book;
            boolean oneCount = book.fact(a, Book.COUNT) == book.fact(b, Book.COUNT);
            boolean oneCounter = book.fact(a, Book.COUNTER) == book.fact(b, Book.COUNTER);
            given[0] = lettersApart(a, b);
            given[1] = book.letter(a, 0) == book.letter(b, 0) ? 1 : 0;
            given[2] = Math.abs(book.fact(a, Book.AGE) - book.fact(b, Book.AGE));
            given[3] = wayApart(a, b);
            given[4] = Math.abs(book.fact(a, Book.DAY) - book.fact(b, Book.DAY));
            given[5] = oneCount && oneCounter ? 1 : 0;
            given[6] = book.fact(a, Book.HOUSE) == book.fact(b, Book.HOUSE) ? 1 : 0;
        }

        int wayApart(int a, int b) {
            return world.town.wayBetween(world.book.fact(a, Book.HOUSE), world.book.fact(b, Book.HOUSE));
        }

        int lettersApart(int a, int b) {
            Book book = world.book;
            int long1 = Math.min(book.nameLength(a), NAME_MOST);
            int long2 = Math.min(book.nameLength(b), NAME_MOST);
            for (int j = 0; j <= long2; j++) {
                fewest[j] = j;
            }
            for (int i = 1; i <= long1; i++) {
                int letter = book.letter(a, i - 1);
                int corner = fewest[0];
                fewest[0] = i;
                for (int j = 1; j <= long2; j++) {
                    int exchanged = corner + (letter == book.letter(b, j - 1) ? 0 : 1);
                    corner = fewest[j];
                    fewest[j] = Math.min(exchanged, 1 + Math.min(corner, fewest[j - 1]));
                }
            }
            return fewest[long2];
        }
    }

    /** The classes of entries that are the same person, and which of them may still be one. */
    private static final class Persons {
        private static final int OPEN = 0;
        private static final int SECRET = 1;
        private static final int BOTH = 2;
        private static final int ROW_BITS = 128;

        int size;
        private final World world;
        private final Likeness likeness;
        private boolean isStale;
        private final int[] ofEntries;
        private final int[] entries;
        private final int[] least;
        private final int[] counts;
        private final long[] houses;
        private final int[] queue;
        private int couples;
        private final long[] possible;
        private final int[] partner;
        private final int[] comeFrom;

        Persons(World world, Likeness likeness) {
            size = 0;
            this.world = world;
            this.likeness = likeness;
            isStale = true;
            ofEntries = new int[ENTRIES_MOST];
            entries = new int[ENTRIES_MOST];
            least = new int[ENTRIES_MOST];
            counts = new int[ENTRIES_MOST];
            houses = new long[ENTRIES_MOST];
            queue = new int[ENTRIES_MOST];
            couples = NONE;
            possible = new long[ENTRIES_MOST * ROW_BITS / 64];
            partner = new int[ENTRIES_MOST];
            comeFrom = new int[ENTRIES_MOST];
        }

        void forget() {
            isStale = true;
        }

        /** Comes ahead of all that is asked here; the classes are gathered only if they may be others by now. */
        void refresh() {
            if (!isStale) {
                return;
            }
            isStale = false;
            couples = NONE;
            size = 0;
            Arrays.fill(ofEntries, NONE);
            for (int e = 0; e < world.book.told; e++) {
                if (ofEntries[e] == NONE && world.book.isKnown(e)) {
                    gather(e);
                }
            }
        }

        private void gather(int first) {
            if (size >= ENTRIES_MOST) {
                return;
            }
            int p = size;
            least[p] = first;
            entries[p] = 0;
            counts[p] = 0;
            houses[p] = 0L;
            size++;
            join(p, first);
            for (int i = 0; i < entries[p] && i < ENTRIES_MOST; i++) {
                for (int e = first + 1; e < world.book.told; e++) {
                    if (ofEntries[e] == NONE && world.book.isKnown(e) && likeness.agree(SAME, queue[i], e)) {
                        join(p, e);
                    }
                }
            }
        }

        /** In the queue are the entries of a person: those alike to them are still to be looked for. */
        private void join(int p, int e) {
            int many = entries[p];
            if (many >= ENTRIES_MOST) {
                return;
            }
            queue[many] = e;
            entries[p] = many + 1;
            ofEntries[e] = p;
            counts[p] |= 1 << world.book.fact(e, Book.COUNT);
            houses[p] |= 1L << world.book.fact(e, Book.HOUSE);
        }

        int ofEntry(int e) {
            return below(e, ENTRIES_MOST) ? ofEntries[e] : NONE;
        }

        int entriesOf(int p) {
            return below(p, size) ? entries[p] : NONE;
        }

        int leastOf(int p) {
            return below(p, size) ? least[p] : NONE;
        }

        int sortOf(int p) {
            return below(p, size) ? counts[p] - 1 : NONE;
        }

        int housesOf(int p) {
            return below(p, size) ? Long.bitCount(houses[p]) : NONE;
        }

        private boolean isIn(int p, int street) {
            return street == NONE || world.town.streetOf(world.book.fact(leastOf(p), Book.HOUSE)) == street;
        }

        int manyOfSort(int street, int sort) {
            int many = 0;
            for (int p = 0; p < size; p++) {
                if (sortOf(p) == sort && isIn(p, street)) {
                    many++;
                }
            }
            return many;
        }

        int missedByBoth(int street) {
            int both = manyOfSort(street, BOTH);
            return both == 0 ? NONE : manyOfSort(street, OPEN) * manyOfSort(street, SECRET) / both;
        }

        int doubles(int street) {
            int many = 0;
            for (int p = 0; p < size; p++) {
                if (housesOf(p) >= 2 && isIn(p, street)) {
                    many++;
                }
            }
            return many;
        }

        int mostCouples() {
            if (couples != NONE) {
                return couples;
            }
            findPossible();
            Arrays.fill(partner, NONE);
            couples = 0;
            for (int p = 0; p < size; p++) {
                if (sortOf(p) == OPEN && findPartner(p)) {
                    couples++;
                }
            }
            return couples;
        }

        private void findPossible() {
            Arrays.fill(possible, 0L);
            for (int a = 0; a < world.book.told; a++) {
                int p = ofEntries[a];
                if (sortOf(p) == OPEN) {
                    for (int b = 0; b < world.book.told; b++) {
                        int q = ofEntries[b];
                        if (sortOf(q) == SECRET && likeness.agree(MAYBE, a, b)) {
                            setBit(possible, p * ROW_BITS + q);
                        }
                    }
                }
            }
        }

        /** Whether there can be one couple more, with this open person, others changing theirs if they must. */
        private boolean findPartner(int open) {
            Arrays.fill(comeFrom, NONE);
            queue[0] = open;
            int waiting = 1;
            for (int i = 0; i < waiting && i < ENTRIES_MOST; i++) {
                for (int q = 0; q < size; q++) {
                    if (comeFrom[q] == NONE && hasBit(possible, queue[i] * ROW_BITS + q)) {
                        comeFrom[q] = queue[i];
                        if (partner[q] == NONE) {
                            change(q);
                            return true;
                        }
                        if (waiting < ENTRIES_MOST) {
                            queue[waiting] = partner[q];
                            waiting++;
                        }
                    }
                }
            }
            return false;
        }

        /** Each open person on the way to a free secret one takes the next one, and leaves his own. */
        private void change(int free) {
            int q = free;
            for (int i = 0; i < size && below(q, size); i++) {
                int p = comeFrom[q];
                if (!below(p, size)) {
                    return;
                }
                int own = partner[p];
                partner[p] = q;
                partner[q] = p;
                q = own;
            }
        }
    }

    /** What makes a counter's book look made up. */
    private static final class Checks {
        private static final int DIGITS = 10;
        private static final int ROW_MOST = 15;
        private static final int SQUARES = ROW_MOST * ROW_MOST + 1;

        private final World world;
        private final int[] often;
        private final long[] ways;

        Checks(World world) {
            this.world = world;
            often = new int[DIGITS];
            ways = new long[(ROW_MOST + 1) * SQUARES];
        }

        private boolean isBy(int e, int c, int count) {
            Book book = world.book;
            return book.fact(e, Book.COUNTER) == c && book.fact(e, Book.COUNT) == count && book.isKnown(e);
        }

        int entriesOf(int c, int count) {
            int many = 0;
            for (int e = 0; e < world.book.told; e++) {
                if (isBy(e, c, count)) {
                    many++;
                }
            }
            return many;
        }

        int ghosts(int c) {
            Book book = world.book;
            int many = 0;
            for (int e = 0; e < book.told; e++) {
                if (isBy(e, c, 0) && !world.somebodyHome(
                        book.fact(e, Book.HOUSE), book.fact(e, Book.DAY), book.fact(e, Book.MINUTE))) {
                    many++;
                }
            }
            return many;
        }

        int quick(int c, int count) {
            int many = 0;
            for (int e = 0; e < world.book.told; e++) {
                if (isBy(e, c, count)) {
                    int ahead = justAhead(e, c, count);
                    if (ahead != NONE && isQuick(ahead, e)) {
                        many++;
                    }
                }
            }
            return many;
        }

        /** Greater for what comes later by day, minute and number. */
        private int order(int e) {
            int minutes = world.book.fact(e, Book.DAY) * MINUTES + world.book.fact(e, Book.MINUTE);
            return minutes * ENTRIES_MOST + e;
        }

        private int justAhead(int e, int c, int count) {
            int ahead = NONE;
            int latest = NONE;
            int own = order(e);
            for (int other = 0; other < world.book.told; other++) {
                int place = order(other);
                if (place < own && place > latest && isBy(other, c, count)) {
                    ahead = other;
                    latest = place;
                }
            }
            return ahead;
        }

        private boolean isQuick(int before, int e) {
            Book book = world.book;
            int from = book.fact(before, Book.HOUSE);
            int to = book.fact(e, Book.HOUSE);
            if (from == to || book.fact(before, Book.DAY) != book.fact(e, Book.DAY)) {
                return false;
            }
            int between = book.fact(e, Book.MINUTE) - book.fact(before, Book.MINUTE);
            return between < world.town.minutesBetween(from, to);
        }

        /** How often each digit comes: how many digits there are. */
        private int tally(int c) {
            Arrays.fill(often, 0);
            int many = 0;
            for (int e = 0; e < world.book.told && many < ROW_MOST; e++) {
                if (isBy(e, c, 0)) {
                    often[Math.floorMod(world.book.fact(e, Book.AGE), DIGITS)]++;
                    many++;
                }
            }
            return many;
        }

        private int squares() {
            int sum = 0;
            for (int d = 0; d < DIGITS; d++) {
                sum += often[d] * often[d];
            }
            return sum;
        }

        int evenness(int c) {
            tally(c);
            return squares();
        }

        long evenWays(int c) {
            int many = tally(c);
            int most = squares();
            Arrays.fill(ways, 0L);
            ways[0] = 1L;
            for (int d = 0; d < DIGITS; d++) {
                allowDigit(many, most);
            }
            long sum = 0L;
            for (int s = 0; s <= most && s < SQUARES; s++) {
                sum += ways[many * SQUARES + s];
            }
            return sum;
        }

        /**
         * From the rows of given lengths and squares without a digit, those with it: longer rows first,
         * so that the shorter ones they come from are still without it.
         */
        private void allowDigit(int longest, int most) {
            for (int row = longest; row >= 1; row--) {
                for (int k = 1; k <= row; k++) {
                    long places = choose(row, k);
                    for (int s = k * k; s <= most && s < SQUARES; s++) {
                        ways[row * SQUARES + s] += ways[(row - k) * SQUARES + s - k * k] * places;
                    }
                }
            }
        }

        int mostSuspicious() {
            int who = NONE;
            int most = 0;
            for (int c = 0; c < COUNTERS; c++) {
                int against = ghosts(c) + quick(c, 0);
                if (against > most) {
                    who = c;
                    most = against;
                }
            }
            return who;
        }
    }

    /** The steps of a round, and whether they can be as told. */
    private static final class Round {
        int steps;
        private final int[] houses;
        private final int[] minutes;

        Round() {
            steps = 0;
            houses = new int[STEPS_MOST];
            minutes = new int[STEPS_MOST];
        }

        void copyFrom(Round other) {
            steps = other.steps;
            System.arraycopy(other.houses, 0, houses, 0, STEPS_MOST);
            System.arraycopy(other.minutes, 0, minutes, 0, STEPS_MOST);
        }

        int put(int i, int house, int minute) {
            if (below(i, STEPS_MOST)) {
                houses[i] = house;
                minutes[i] = minute;
                steps = i + 1;
            }
            return steps;
        }

        int firstWrong(World world, int day) {
            for (int i = 0; i < steps; i++) {
                boolean home = world.somebodyHome(houses[i], day, minutes[i]);
                if (!home || i > 0 && isTooSoon(world.town, i)) {
                    return i;
                }
            }
            return NONE;
        }

        private boolean isTooSoon(Town town, int i) {
            return minutes[i] < minutes[i - 1] + town.minutesBetween(houses[i - 1], houses[i]);
        }

        int seen(World world, int day) {
            int wrong = firstWrong(world, day);
            int right = wrong == NONE ? steps : wrong;
            long set = 0L;
            for (int i = 0; i < right; i++) {
                set |= 1L << houses[i];
            }
            return Long.bitCount(set);
        }
    }

    /** Who may go where in the days that are left, and the plan for it. */
    private static final class LastDays {
        int days;
        int counters;
        final int[] streets;
        final int[] strengths;
        private final boolean[] isClosed;
        private final int[] slots;

        LastDays() {
            days = 1;
            counters = 1;
            streets = new int[SLOTS];
            strengths = new int[LAST_COUNTERS_MOST];
            isClosed = new boolean[SLOTS * LAST_DAYS_MOST];
            slots = new int[LAST_COUNTERS_MOST * LAST_DAYS_MOST];
            Arrays.fill(streets, NONE);
            Arrays.fill(slots, NONE);
        }

        void copyFrom(LastDays other) {
            days = other.days;
            counters = other.counters;
            System.arraycopy(other.streets, 0, streets, 0, SLOTS);
            System.arraycopy(other.strengths, 0, strengths, 0, LAST_COUNTERS_MOST);
            System.arraycopy(other.isClosed, 0, isClosed, 0, SLOTS * LAST_DAYS_MOST);
            System.arraycopy(other.slots, 0, slots, 0, LAST_COUNTERS_MOST * LAST_DAYS_MOST);
        }

        boolean giveStreet(int slot, int street) {
            if (!below(slot, SLOTS) || street != NONE && !below(street, STREETS)) {
                return false;
            }
            for (int s = 0; s < SLOTS; s++) {
                if (s != slot && street != NONE && streets[s] == street) {
                    return false;
                }
            }
            streets[slot] = street;
            return true;
        }

        boolean giveStrength(int counter, int strength) {
            if (!below(counter, LAST_COUNTERS_MOST) || !below(strength, STRENGTHS)) {
                return false;
            }
            strengths[counter] = strength;
            return true;
        }

        boolean giveDays(int many) {
            if (many < 1 || many > LAST_DAYS_MOST) {
                return false;
            }
            days = many;
            return true;
        }

        boolean giveCounters(int many) {
            if (many < 1 || many > LAST_COUNTERS_MOST) {
                return false;
            }
            counters = many;
            return true;
        }

        void close(int slot, int day, boolean is) {
            if (below(slot, SLOTS) && below(day, LAST_DAYS_MOST)) {
                isClosed[slot * LAST_DAYS_MOST + day] = is;
            }
        }

        boolean isOpen(int slot, int day) {
            return below(slot, SLOTS) && below(day, LAST_DAYS_MOST) && !isClosed[slot * LAST_DAYS_MOST + day];
        }

        void send(int counter, int day, int slot) {
            if (below(counter, LAST_COUNTERS_MOST) && below(day, LAST_DAYS_MOST)) {
                slots[counter * LAST_DAYS_MOST + day] = slot;
            }
        }

        /** Uses up what is left to see. */
        int seenByPlan(int[] left) {
            int seen = 0;
            for (int d = 0; d < days; d++) {
                for (int c = 0; c < counters; c++) {
                    int slot = slots[c * LAST_DAYS_MOST + d];
                    if (below(slot, left.length) && isOpen(slot, d)) {
                        int more = Math.min(strengths[c], left[slot]);
                        left[slot] -= more;
                        seen += more;
                    }
                }
            }
            return seen;
        }
    }

    /**
     * The best plan, by all that can be left to see in the slots: a number whose digits are what is left in
     * each one, a bit for each such number that some plan comes to.
     */
    private static final class Search {
        private static final int LEFTS_MOST = 100000;
        private static final int WORDS_MOST = (LEFTS_MOST + 63) / 64;

        private long[] reached;
        private long[] next;
        private final int[] weights;
        private final int[] bases;
        private int wordsUsed;

        Search() {
            reached = new long[WORDS_MOST];
            next = new long[WORDS_MOST];
            weights = new int[SLOTS];
            bases = new int[SLOTS];
            wordsUsed = 0;
        }

        int mostSeen(LastDays last, int[] missed) {
            int all = begin(missed);
            for (int d = 0; d < last.days; d++) {
                for (int c = 0; c < last.counters; c++) {
                    boolean isAllSeen = hasBit(reached, 0);
                    if (last.strengths[c] > 0 && !isAllSeen) {
                        send(last, d, last.strengths[c]);
                    }
                }
            }
            return all - leastLeft();
        }

        /** Nobody went yet: how much there is to see. */
        private int begin(int[] missed) {
            int weight = 1;
            int start = 0;
            int all = 0;
            for (int s = 0; s < SLOTS; s++) {
                int here = Math.min(missed[s], MISSED_COUNTED);
                weights[s] = weight;
                bases[s] = here + 1;
                start += here * weight;
                all += here;
                weight *= here + 1;
            }
            wordsUsed = Math.min(WORDS_MOST, (weight + 63) / 64);
            clear(reached);
            setBit(reached, start);
            return all;
        }

        private void clear(long[] row) {
            for (int w = 0; w < wordsUsed; w++) {
                row[w] = 0L;
            }
        }

        private void send(LastDays last, int day, int strength) {
            clear(next);
            for (int w = 0; w < wordsUsed; w++) {
                long bits = reached[w];
                for (int i = 0; i < 64 && bits != 0L; i++) {
                    sendFrom(w * 64 + Long.numberOfTrailingZeros(bits), last, day, strength);
                    bits &= bits - 1L;
                }
            }
            long[] used = reached;
            reached = next;
            next = used;
        }

        /** Who sees something never does worse than who stays, so he stays only if there is nothing for him. */
        private void sendFrom(int left, LastDays last, int day, int strength) {
            boolean stays = true;
            for (int s = 0; s < SLOTS; s++) {
                int here = leftIn(left, s);
                if (here > 0 && last.isOpen(s, day)) {
                    setBit(next, left - Math.min(here, strength) * weights[s]);
                    stays = false;
                }
            }
            if (stays) {
                setBit(next, left);
            }
        }

        private int leftIn(int left, int slot) {
            int weight = weights[slot];
            int base = bases[slot];
            return weight > 0 && base > 0 ? left / weight % base : 0;
        }

        private int leastLeft() {
            int least = SLOTS * MISSED_COUNTED;
            for (int w = 0; w < wordsUsed; w++) {
                long bits = reached[w];
                for (int i = 0; i < 64 && bits != 0L; i++) {
                    int left = w * 64 + Long.numberOfTrailingZeros(bits);
                    int sum = 0;
                    for (int s = 0; s < SLOTS; s++) {
                        sum += leftIn(left, s);
                    }
                    least = Math.min(least, sum);
                    bits &= bits - 1L;
                }
            }
            return least;
        }
    }
}
