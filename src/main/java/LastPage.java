import java.util.Arrays;

/**
 * The book of laws that is read out from its end, a page a day, and what it says meanwhile.
 * Sets are told by bits: a set of CASES is an int too, one bit for each of the 32.
 * No call makes an object: all that is needed is made with the object itself.
 */
public final class LastPage {
    public static final int BAD = -1, FULL = -2, FINDING = -3, STATE = -4, SPENT = -6, NONE = -9;

    private static final int NOTHING = 1, BEYOND = 2, UNLIKE = 3, NOUGHT = 4, SIZE = 5;
    private static final int PAGE = 0, EXCEPTION = 1, POINTER = 2, DEFINITION = 3, STRUCK = 4, INDEX = 5;

    private static final int ROWS = 6, MOST_INTS = 40;
    private static final int TEXTS = 4, MOST_BYTES = 80;
    private static final int SHELVES = 3;
    private static final int MOST_PAGES = 6;
    private static final int MOST_DEEDS = 8, MOST_ORDERED = 5;
    private static final int MOST_LOTS = 60;

    private static final int FIVE = 5, SIX = 6;
    private static final int FACTS = 5, ALL_FACTS = 31, ALL_WORDS = 127;
    private static final int CASES = 32, ALL_CASES = -1, NO_CASES = 0;
    private static final int MEANINGS = 25;
    private static final int LAST_DAY = 20, DAYS = 21;
    /** Behind every DAY that can be asked for: a PAGE of this DAY is not read. */
    private static final int NEVER = 99;

    private static final int BLANK = 32, FIGURE_0 = 48, FIGURE_9 = 57;
    private static final int MISSING = -1;

    /** The letters of the KINDS. */
    private static final int[] LETTERS = {112, 101, 111, 100, 115, 105};
    /** For each FACT the CASES in which it is. */
    private static final int[] CASES_WITH = {0xAAAAAAAA, 0xCCCCCCCC, 0xF0F0F0F0, 0xFF00FF00, 0xFFFF0000};

    private final Shelf rows = new Shelf(ROWS, MOST_INTS);
    private final Shelf texts = new Shelf(TEXTS, MOST_BYTES);
    private final Book book = new Book();
    /** A BOOK to try things on, so that the BOOK itself is never changed by a question. */
    private final Book trial = new Book();
    /** A kept BOOK without PAGES is missing: such a one can't be kept. */
    private final Book[] kept = {new Book(), new Book(), new Book()};
    private final Scribe scribe = new Scribe();
    private final Court court = new Court();
    private final Planner planner = new Planner();
    private final Orders orders = new Orders();
    private final int[] found = new int[SIZE + 1];
    private int latestFinding;
    private int lastAsked;
    private long upperNumber;
    private long lowerNumber = 1;

    public LastPage() {
    }

    // ---- 1 rows, texts, books

    public int row(int r, int n) {
        if (!rows.isOne(r) || n > MOST_INTS) return BAD;
        if (n < 0) return refuse(SIZE);
        rows.make(r, n, 0);
        return n;
    }

    public int lay(int r, int i, int v) {
        if (!rows.isOne(r)) return BAD;
        if (!rows.isThere(r)) return refuse(NOTHING);
        if (!rows.isPlace(r, i)) return refuse(BEYOND);
        lastAsked = rows.placeOf(r, i);
        rows.write(r, i, v);
        return 1;
    }

    public int at(int r, int i) {
        if (!rows.isOne(r)) return BAD;
        if (!rows.isThere(r)) return refuse(NOTHING);
        if (!rows.isPlace(r, i)) return refuse(BEYOND);
        lastAsked = rows.placeOf(r, i);
        return 1;
    }

    public int tear(int r) {
        if (!rows.isOne(r)) return BAD;
        if (!rows.isThere(r)) return refuse(NOTHING);
        rows.drop(r);
        return 1;
    }

    public int copy(int r, int i, int to, int j, int n) {
        if (!rows.isOne(r) || !rows.isOne(to)) return BAD;
        if (n < 0) return refuse(SIZE);
        if (!rows.isThere(r) || !rows.isThere(to)) return refuse(NOTHING);
        if (!rows.arePlaces(r, i, n) || !rows.arePlaces(to, j, n)) return refuse(BEYOND);
        rows.carry(r, i, to, j, n);
        return 1;
    }

    public int mean(int r) {
        if (!rows.isOne(r)) return BAD;
        if (!rows.isThere(r)) return refuse(NOTHING);
        int size = rows.sizeOf(r);
        if (size == 0) return refuse(NOUGHT);
        lastAsked = (int) (rows.sumOf(r) / size);
        return 1;
    }

    public int text(int t, int n) {
        if (!texts.isOne(t) || n > MOST_BYTES) return BAD;
        if (n < 0) return refuse(SIZE);
        texts.make(t, n, BLANK);
        return n;
    }

    public int put(int t, int i, int v) {
        if (!texts.isOne(t)) return BAD;
        if (!texts.isThere(t)) return refuse(NOTHING);
        if (!texts.isPlace(t, i)) return refuse(BEYOND);
        int was = texts.placeOf(t, i);
        texts.write(t, i, (byte) v);
        return was + 1000;
    }

    public int fault(int t) {
        if (!texts.isOne(t)) return BAD;
        if (!texts.isThere(t)) return refuse(NOTHING);
        return scribe.faultOf(texts, t, trial);
    }

    public int book(int t) {
        if (!texts.isOne(t)) return BAD;
        if (!texts.isThere(t)) return refuse(NOTHING);
        if (scribe.faultOf(texts, t, trial) != NONE) return STATE;
        book.become(trial);
        book.turnFromEnd();
        for (int k = 0; k < SHELVES; k++) kept[k].empty();
        return book.count;
    }

    public int page(int i, int what) {
        if (!book.isOne(i) || what < 0 || what > 5) return BAD;
        lastAsked = book.tell(i, what);
        return 1;
    }

    public int mark(int i, int kind) {
        if (!book.isOne(i) || kind < EXCEPTION || kind > INDEX) return BAD;
        if (!book.pages[i].isOf(kind)) return refuse(UNLIKE);
        switch (kind) {
            case EXCEPTION: return book.pages[i].weight();
            case POINTER: return book.holds(i, LAST_DAY) ? 1 : 0;
            case DEFINITION: return book.havingWords(book.pages[i].words);
            case STRUCK: return book.pages[i].day + Page.STRUCK_GOES_ON;
            default: return book.firstDayOf(i);
        }
    }

    public int reverse(int i, int v) {
        if (!book.isOne(i) || !isVerdict(v)) return BAD;
        Page p = book.pages[i];
        if (p.kind == DEFINITION) return refuse(UNLIKE);
        int was = p.verdict;
        p.verdict = v;
        return was;
    }

    public int swap(int i, int j) {
        if (!book.isOne(i) || !book.isOne(j)) return BAD;
        int day = book.pages[i].day;
        book.pages[i].day = book.pages[j].day;
        book.pages[j].day = day;
        return book.pages[i].day;
    }

    public int read(int r) {
        if (!rows.isOne(r)) return BAD;
        if (book.count == 0) return STATE;
        if (!rows.isThere(r)) return refuse(NOTHING);
        if (rows.sizeOf(r) != book.count) return refuse(SIZE);
        if (!namesEachPageOnce(r)) return refuse(UNLIKE);
        for (int day = 0; day < book.count; day++) {
            int i = rows.placeOf(r, day);
            if (book.isOne(i)) book.pages[i].day = day;
        }
        return 1;
    }

    public int add(int verdict, int words) {
        if (!isVerdict(verdict) || words < 0 || words > ALL_WORDS) return BAD;
        if (book.count == MOST_PAGES) return FULL;
        book.append(PAGE, NONE, verdict, words, NONE);
        return book.count - 1;
    }

    public int rip() {
        if (book.count == 0) return STATE;
        book.dropLast();
        return book.count;
    }

    public int keep(int k) {
        if (!isShelf(k)) return BAD;
        if (book.count == 0) return STATE;
        kept[k].become(book);
        return book.count;
    }

    public int on(int k) {
        if (!isShelf(k)) return BAD;
        if (kept[k].count == 0) return refuse(NOTHING);
        book.become(kept[k]);
        return book.count;
    }

    // ---- 2 what binds, what is meant

    public int binds(int day) {
        return isDay(day) ? book.bound(day) : BAD;
    }

    public int means(int word, int day) {
        if (word != FIVE && word != SIX || !isDay(day)) return BAD;
        return book.factsFor(word, book.bound(day));
    }

    public int meanings(int day) {
        if (!isDay(day)) return BAD;
        int bound = book.bound(day);
        return Integer.bitCount(book.factsFor(FIVE, bound)) * Integer.bitCount(book.factsFor(SIX, bound));
    }

    public int never() {
        int idle = 0;
        int ringed = 0;
        for (int i = 0; i < book.count; i++) {
            if (book.firstDayOf(i) != NONE) continue;
            idle |= 1 << i;
            if (book.isInRing(i)) ringed |= 1 << i;
        }
        lastAsked = ringed;
        return idle;
    }

    // ---- 3 cases

    public int verdict(int marks, int day) {
        if (!isCase(marks) || !isDay(day)) return BAD;
        court.hear(book, day);
        lastAsked = court.timesOne(marks);
        return court.stateOf(marks);
    }

    public int judge(int marks, int meaning, int day) {
        if (!isCase(marks) || !isDay(day) || meaning < 0) return BAD;
        int five = meaning / 10;
        int six = meaning % 10;
        if (five >= FACTS || six >= FACTS) return BAD;
        int bound = book.bound(day);
        if (!hasBit(book.factsFor(FIVE, bound), five) || !hasBit(book.factsFor(SIX, bound), six)) return BAD;
        return book.judgeOf(marks, bound, five, six);
    }

    public int odds(int marks, int day) {
        if (!isCase(marks) || !isDay(day)) return BAD;
        court.hear(book, day);
        tellFraction(court.timesOne(marks), court.heard);
        return 1;
    }

    public int waits(int day) {
        if (!isDay(day)) return BAD;
        court.hear(book, day);
        lastAsked = Integer.bitCount(court.always);
        return Integer.bitCount(court.waiting());
    }

    public int all() {
        return court.waitingInAll(book);
    }

    // ---- 4 deeds

    public int free(int marks, int day) {
        if (!isCase(marks) || !isDay(day)) return BAD;
        for (int d = day; d <= LAST_DAY; d++) {
            court.hear(book, d);
            if (court.stateOf(marks) == 0) return d;
        }
        return NONE;
    }

    public int deeds(int r, int to) {
        int refused = refusalOfDeeds(r, to, MOST_DEEDS);
        if (refused != 0) return refused;
        planner.take(rows, r, court, book);
        if (!planner.planAsTheyCome()) return SPENT;
        planner.tellDays(rows, to);
        return planner.soonest;
    }

    public int order(int r, int to) {
        int refused = refusalOfDeeds(r, to, MOST_ORDERED);
        if (refused != 0) return refused;
        planner.take(rows, r, court, book);
        if (!planner.planSoonest()) return SPENT;
        planner.tellPlaces(rows, to);
        return planner.soonest;
    }

    // ---- 5 what flips

    public int flips(int marks) {
        if (!isCase(marks)) return BAD;
        court.hearReading(book);
        return court.trace(marks);
    }

    public int flip(int marks, int n) {
        if (!isCase(marks) || n < 0) return BAD;
        court.hearReading(book);
        return n < court.trace(marks) ? book.pageReadOn(court.flipDays[n]) : NONE;
    }

    public int most() {
        court.hearReading(book);
        int first = 0;
        int often = 0;
        for (int marks = 0; marks < CASES; marks++) {
            int times = court.trace(marks);
            if (times > often) {
                often = times;
                first = marks;
            }
        }
        lastAsked = often;
        return first;
    }

    public int matter(int i, int day) {
        if (!book.isOne(i) || !isDay(day)) return BAD;
        court.hear(book, day);
        int always = court.always;
        int ever = court.ever;
        trial.become(book);
        trial.leaveOut(i);
        court.hear(trial, day);
        return Integer.bitCount(always ^ court.always | ever ^ court.ever);
    }

    // ---- 6 orders of reading

    public int best(int r) {
        if (!rows.isOne(r)) return BAD;
        if (book.count == 0) return STATE;
        trial.become(book);
        orders.findBest(trial, court);
        rows.make(r, book.count, 0);
        for (int day = 0; day < book.count; day++) rows.write(r, day, orders.best[day]);
        return orders.least;
    }

    public int front() {
        trial.become(book);
        trial.turnFromEnd();
        lastAsked = court.waitingInAll(trial);
        trial.turnFromFront();
        return court.waitingInAll(trial);
    }

    // ---- 7 what fits

    public int meant(int r) {
        if (!rows.isOne(r)) return BAD;
        if (!rows.isThere(r)) return refuse(NOTHING);
        if (rows.sizeOf(r) % 3 != 0) return refuse(SIZE);
        if (!tellsJudgements(r)) return refuse(UNLIKE);
        int ways = 0;
        int fives = 0;
        for (int five = 0; five < FACTS; five++) {
            for (int six = 0; six < FACTS; six++) {
                if (!couldMean(r, five, six)) continue;
                ways++;
                fives |= 1 << five;
            }
        }
        lastAsked = fives;
        return ways;
    }

    public int kinds(int i, int marks, int day, int verdict) {
        if (!book.isOne(i) || !isCase(marks) || !isDay(day) || !isVerdict(verdict)) return BAD;
        int is = book.pages[i].kind;
        if (is != PAGE && is != EXCEPTION && is != STRUCK) return refuse(UNLIKE);
        return bitIfKind(PAGE, i, marks, day, verdict)
            | bitIfKind(EXCEPTION, i, marks, day, verdict)
            | bitIfKind(STRUCK, i, marks, day, verdict);
    }

    // ---- 8 lots

    public int lots(int n, int seed) {
        if (n < 1 || n > MOST_LOTS || seed < 1 || seed > 2147483646) return BAD;
        int waiting = 0;
        long number = seed;
        for (int k = 0; k < n; k++) {
            number = 48271L * number % 2147483647L;
            court.hear(book, (int) (number / CASES % DAYS));
            if (hasBit(court.waiting(), (int) (number % CASES))) waiting++;
        }
        return waiting;
    }

    // ---- 9 what is told

    public int asked() {
        return lastAsked;
    }

    public long upper() {
        return upperNumber;
    }

    public long lower() {
        return lowerNumber;
    }

    public int count(int what) {
        switch (what) {
            case 0: return book.count;
            case 1: return book.countOf(DEFINITION);
            case 2: return book.countOf(EXCEPTION);
            case 3: return book.countOf(POINTER);
            case 4: return rows.countThere();
            case 5: return texts.countThere();
            case 6: return keptBooks();
            default: return BAD;
        }
    }

    public int finding() {
        return latestFinding;
    }

    public int findings(int f) {
        return f < NOTHING || f > SIZE ? BAD : found[f];
    }

    public long digest() {
        long h = 17;
        for (int what = 0; what <= 6; what++) h = 31 * h + count(what);
        for (int i = 0; i < book.count; i++) {
            for (int what = 0; what <= 5; what++) h = 31 * h + book.tell(i, what);
        }
        for (int k = 0; k < SHELVES; k++) h = 31 * h + (kept[k].count == 0 ? MISSING : kept[k].count);
        return texts.digestOn(rows.digestOn(h));
    }

    // ---- what the calls share

    private static boolean hasBit(int bits, int i) {
        return (bits >> i & 1) != 0;
    }

    private static boolean isDay(int day) {
        return day >= 0 && day <= LAST_DAY;
    }

    private static boolean isCase(int marks) {
        return marks >= 0 && marks < CASES;
    }

    private static boolean isVerdict(int v) {
        return v == 0 || v == 1;
    }

    private static boolean isShelf(int k) {
        return k >= 0 && k < SHELVES;
    }

    private int refuse(int finding) {
        latestFinding = finding;
        if (finding >= NOTHING && finding <= SIZE) found[finding]++;
        return FINDING;
    }

    private int keptBooks() {
        int there = 0;
        for (int k = 0; k < SHELVES; k++) if (kept[k].count > 0) there++;
        return there;
    }

    private boolean namesEachPageOnce(int r) {
        int named = 0;
        for (int k = 0; k < rows.sizeOf(r); k++) {
            int i = rows.placeOf(r, k);
            if (!book.isOne(i) || hasBit(named, i)) return false;
            named |= 1 << i;
        }
        return true;
    }

    private void tellFraction(int part, int whole) {
        for (int by = whole; by >= 1; by--) {
            if (part % by != 0 || whole % by != 0) continue;
            upperNumber = part / by;
            lowerNumber = whole / by;
            return;
        }
    }

    /** What a ROW of deeds and one for the answer are refused with; 0: they are not. */
    private int refusalOfDeeds(int r, int to, int atMost) {
        if (!rows.isOne(r) || !rows.isOne(to)) return BAD;
        if (!rows.isThere(r)) return refuse(NOTHING);
        if (rows.sizeOf(r) > atMost) return refuse(SIZE);
        for (int k = 0; k < rows.sizeOf(r); k++) {
            if (!isCase(rows.placeOf(r, k))) return refuse(UNLIKE);
        }
        return 0;
    }

    private boolean tellsJudgements(int r) {
        for (int k = 0; k + 2 < rows.sizeOf(r); k += 3) {
            if (!isCase(rows.placeOf(r, k))) return false;
            if (!isDay(rows.placeOf(r, k + 1))) return false;
            if (!isVerdict(rows.placeOf(r, k + 2))) return false;
        }
        return true;
    }

    private boolean couldMean(int r, int five, int six) {
        for (int k = 0; k + 2 < rows.sizeOf(r); k += 3) {
            int bound = book.bound(rows.placeOf(r, k + 1));
            boolean one = hasBit(book.casesOne(bound, five, six), rows.placeOf(r, k));
            if (one != (rows.placeOf(r, k + 2) == 1)) return false;
        }
        return true;
    }

    private int bitIfKind(int kind, int i, int marks, int day, int verdict) {
        trial.become(book);
        trial.changeKind(i, kind);
        court.hear(trial, day);
        return court.stateOf(marks) == verdict ? 1 << kind : 0;
    }

    /** Rows of ints, each there or missing. Who calls has looked at the numbers. */
    private static final class Shelf {
        private final int[][] places;
        private final int[] sizes;

        Shelf(int rows, int atMost) {
            places = new int[rows][atMost];
            sizes = new int[rows];
            Arrays.fill(sizes, MISSING);
        }

        boolean isOne(int r) {
            return r >= 0 && r < sizes.length;
        }

        boolean isThere(int r) {
            return sizes[r] != MISSING;
        }

        boolean isPlace(int r, int i) {
            return i >= 0 && i < sizes[r];
        }

        /** Asked by the size less n, as i and n together may be too great for an int. */
        boolean arePlaces(int r, int i, int n) {
            return i >= 0 && i <= sizes[r] - n;
        }

        int sizeOf(int r) {
            return sizes[r];
        }

        int placeOf(int r, int i) {
            return places[r][i];
        }

        void write(int r, int i, int v) {
            places[r][i] = v;
        }

        void make(int r, int n, int v) {
            sizes[r] = n;
            for (int i = 0; i < n; i++) places[r][i] = v;
        }

        void drop(int r) {
            sizes[r] = MISSING;
        }

        void carry(int r, int i, int to, int j, int n) {
            System.arraycopy(places[r], i, places[to], j, n);
        }

        long sumOf(int r) {
            long sum = 0;
            for (int i = 0; i < sizes[r]; i++) sum += places[r][i];
            return sum;
        }

        int countThere() {
            int there = 0;
            for (int r = 0; r < sizes.length; r++) if (isThere(r)) there++;
            return there;
        }

        long digestOn(long from) {
            long h = from;
            for (int r = 0; r < sizes.length; r++) {
                h = 31 * h + sizes[r];
                for (int i = 0; i < sizes[r]; i++) h = 31 * h + places[r][i];
            }
            return h;
        }
    }

    /** A PAGE of any KIND; WORDS of a DEFINITION are the one that it tells. */
    private static final class Page {
        /** So many DAYS behind its own a STRUCK one still BINDS. */
        private static final int STRUCK_GOES_ON = 2;

        private int kind;
        private int points;
        private int verdict;
        private int words;
        private int fact;
        private int day;
        /** The CASES in which its WORDS that are FACTS are SO: kept, as it is asked for by each MEANING. */
        private int plainly;

        void become(Page other) {
            kind = other.kind;
            points = other.points;
            verdict = other.verdict;
            words = other.words;
            fact = other.fact;
            day = other.day;
            plainly = other.plainly;
        }

        void putWords(int bits) {
            words = bits;
            plainly = ALL_CASES;
            for (int f = 0; f < FACTS; f++) if (hasBit(bits, f)) plainly &= CASES_WITH[f];
        }

        /** Of a KIND above 0; of KIND 0 is each. */
        boolean isOf(int k) {
            switch (k) {
                case EXCEPTION: return kind == EXCEPTION || kind == STRUCK;
                case POINTER: return kind == POINTER || kind == INDEX;
                default: return kind == k;
            }
        }

        int weight() {
            return Integer.bitCount(words) + (isOf(EXCEPTION) ? 10 : 0);
        }

        int casesThatFit(int five, int six) {
            if (kind == DEFINITION) return NO_CASES;
            int cases = plainly;
            if (hasBit(words, FIVE)) cases &= CASES_WITH[five];
            if (hasBit(words, SIX)) cases &= CASES_WITH[six];
            return cases;
        }
    }

    /** PAGES, and what they say by one MEANING. */
    private static final class Book {
        private final Page[] pages = new Page[MOST_PAGES];
        /** The PAGES by what they weigh, the most first, of alike ones the least number. */
        private final int[] ranked = new int[MOST_PAGES];
        private int count;

        Book() {
            for (int i = 0; i < MOST_PAGES; i++) pages[i] = new Page();
        }

        boolean isOne(int i) {
            return i >= 0 && i < count;
        }

        void empty() {
            count = 0;
        }

        void become(Book other) {
            count = other.count;
            for (int i = 0; i < count; i++) {
                pages[i].become(other.pages[i]);
                ranked[i] = other.ranked[i];
            }
        }

        /** Refuses a seventh one by itself, too, as no place is there for it. */
        void append(int kind, int points, int verdict, int words, int fact) {
            if (count >= MOST_PAGES) return;
            Page p = pages[count];
            p.kind = kind;
            p.points = points;
            p.verdict = verdict;
            p.putWords(words);
            p.fact = fact;
            p.day = count;
            count++;
            rank();
        }

        void dropLast() {
            if (count == 0) return;
            count--;
            int torn = pages[count].day;
            for (int i = 0; i < count; i++) if (pages[i].day > torn) pages[i].day--;
            rank();
        }

        void changeKind(int i, int kind) {
            if (!isOne(i)) return;
            pages[i].kind = kind;
            rank();
        }

        /** Of KIND 0, as an INDEX need not be read to BIND. */
        void leaveOut(int i) {
            if (!isOne(i)) return;
            pages[i].day = NEVER;
            changeKind(i, PAGE);
        }

        void turnFromEnd() {
            for (int i = 0; i < count; i++) pages[i].day = count - 1 - i;
        }

        void turnFromFront() {
            for (int i = 0; i < count; i++) pages[i].day = i;
        }

        private void rank() {
            for (int i = 0; i < count; i++) {
                int k = i;
                while (k > 0 && pages[ranked[k - 1]].weight() < pages[i].weight()) {
                    ranked[k] = ranked[k - 1];
                    k--;
                }
                ranked[k] = i;
            }
        }

        int tell(int i, int what) {
            if (!isOne(i)) return NONE;
            Page p = pages[i];
            switch (what) {
                case 0: return p.kind;
                case 1: return p.verdict;
                case 2: return p.words;
                case 3: return p.points;
                case 4: return p.fact;
                default: return p.day;
            }
        }

        int countOf(int kind) {
            int n = 0;
            for (int i = 0; i < count; i++) if (pages[i].isOf(kind)) n++;
            return n;
        }

        int havingWords(int bits) {
            int n = 0;
            for (int i = 0; i < count; i++) {
                if (pages[i].kind != DEFINITION && (pages[i].words & bits) != 0) n++;
            }
            return n;
        }

        int pageReadOn(int day) {
            for (int i = 0; i < count; i++) if (pages[i].day == day) return i;
            return NONE;
        }

        /** Goes from PAGE to PAGE pointed to; who has not come to an end by as many as there are is in a ring. */
        boolean holds(int i, int day) {
            int from = i;
            for (int step = 0; step < count && isOne(from); step++) {
                Page p = pages[from];
                if (p.kind != INDEX && day < p.day) return false;
                if (!p.isOf(POINTER)) return p.kind != STRUCK || day <= p.day + Page.STRUCK_GOES_ON;
                from = p.points;
            }
            return false;
        }

        int firstDayOf(int i) {
            for (int day = 0; day <= LAST_DAY; day++) if (holds(i, day)) return day;
            return NONE;
        }

        boolean isInRing(int i) {
            int from = i;
            for (int step = 0; step < count && isOne(from); step++) {
                if (!pages[from].isOf(POINTER)) return false;
                from = pages[from].points;
                if (from == i) return true;
            }
            return false;
        }

        int bound(int day) {
            int bits = 0;
            for (int i = 0; i < count; i++) if (holds(i, day)) bits |= 1 << i;
            return bits;
        }

        int factsFor(int word, int bound) {
            int facts = ALL_FACTS;
            int latest = -1;
            for (int i = 0; i < count; i++) {
                Page p = pages[i];
                if (!hasBit(bound, i) || p.kind != DEFINITION || !hasBit(p.words, word)) continue;
                if (p.day < latest) continue;
                latest = p.day;
                facts = 1 << p.fact;
            }
            return facts;
        }

        /** The CASES whose VERDICT is 1 by a MEANING, all at once: each goes to the first PAGE by weight that fits. */
        int casesOne(int bound, int five, int six) {
            int ones = NO_CASES;
            int open = ALL_CASES;
            for (int k = 0; k < count; k++) {
                if (!hasBit(bound, ranked[k])) continue;
                Page p = pages[ranked[k]];
                int cases = p.casesThatFit(five, six) & open;
                if (p.verdict == 1) ones |= cases;
                open &= ~cases;
            }
            return ones;
        }

        int judgeOf(int marks, int bound, int five, int six) {
            for (int k = 0; k < count; k++) {
                int i = ranked[k];
                if (hasBit(bound, i) && hasBit(pages[i].casesThatFit(five, six), marks)) return i;
            }
            return NONE;
        }
    }

    /** Makes PAGES of a TEXT. */
    private static final class Scribe {
        private Shelf texts;
        private int t;
        private int size;
        /** The place that is looked at; once it can't go on, the FAULT. */
        private int place;
        private boolean stuck;

        /** Writes what a TEXT says into a BOOK, as far as it goes. */
        int faultOf(Shelf from, int number, Book into) {
            texts = from;
            t = number;
            size = from.sizeOf(number);
            place = 0;
            stuck = false;
            into.empty();
            for (int step = 0; step < MOST_BYTES && !stuck && place < size; step++) {
                if (sign() == BLANK) place++;
                else takeItem(into);
            }
            return stuck ? place : NONE;
        }

        private int sign() {
            return texts.placeOf(t, place);
        }

        private void takeItem(Book into) {
            int kind = kindByLetter(sign());
            if (kind == NONE || into.count == MOST_PAGES) {
                stuck = true;
                return;
            }
            place++;
            if (kind == DEFINITION) {
                int word = takeFigure(FIVE, SIX);
                int fact = takeFigure(0, FACTS - 1);
                into.append(kind, NONE, 0, 1 << word, fact);
            } else {
                int points = kind == POINTER || kind == INDEX ? takeFigure(0, MOST_PAGES - 1) : NONE;
                int verdict = takeFigure(0, 1);
                into.append(kind, points, verdict, takeWords(), NONE);
            }
        }

        private static int kindByLetter(int letter) {
            for (int kind = 0; kind < LETTERS.length; kind++) if (LETTERS[kind] == letter) return kind;
            return NONE;
        }

        private int takeFigure(int least, int greatest) {
            if (stuck) return least;
            if (place >= size || sign() < FIGURE_0 + least || sign() > FIGURE_0 + greatest) {
                stuck = true;
                return least;
            }
            place++;
            return texts.placeOf(t, place - 1) - FIGURE_0;
        }

        private boolean isAtFigure() {
            return !stuck && place < size && sign() >= FIGURE_0 && sign() <= FIGURE_9;
        }

        private int takeWords() {
            int words = 0;
            int least = 0;
            for (int step = 0; step < MOST_BYTES && isAtFigure(); step++) {
                int word = takeFigure(least, SIX);
                if (stuck) return words;
                words |= 1 << word;
                least = word + 1;
            }
            return words;
        }
    }

    /** What CASES are on a DAY by all MEANINGS that can be on it. */
    private static final class Court {
        /** By each MEANING that was heard the CASES whose VERDICT is 1. */
        private final int[] ones = new int[MEANINGS];
        private int heard;
        /** The CASES that are 1 by each of them, by one at least. */
        private int always;
        private int ever;
        /** The same for each DAY on which a PAGE is read. */
        private final int[] alwaysOn = new int[MOST_PAGES];
        private final int[] everOn = new int[MOST_PAGES];
        private int daysRead;
        private final int[] flipDays = new int[MOST_PAGES];

        void hear(Book book, int day) {
            int bound = book.bound(day);
            int fives = book.factsFor(FIVE, bound);
            int sixes = book.factsFor(SIX, bound);
            heard = 0;
            always = ALL_CASES;
            ever = NO_CASES;
            for (int five = 0; five < FACTS; five++) {
                if (!hasBit(fives, five)) continue;
                for (int six = 0; six < FACTS; six++) {
                    if (hasBit(sixes, six)) note(book.casesOne(bound, five, six));
                }
            }
        }

        private void note(int cases) {
            if (heard >= MEANINGS) return;
            ones[heard++] = cases;
            always &= cases;
            ever |= cases;
        }

        int waiting() {
            return ever & ~always;
        }

        int timesOne(int marks) {
            int times = 0;
            for (int m = 0; m < heard; m++) if (hasBit(ones[m], marks)) times++;
            return times;
        }

        /** The VERDICT of a CASE that is SURE; NONE: it WAITS. */
        int stateOf(int marks) {
            if (hasBit(always, marks)) return 1;
            return hasBit(ever, marks) ? NONE : 0;
        }

        int waitingInAll(Book book) {
            int sum = 0;
            for (int day = 0; day < book.count; day++) {
                hear(book, day);
                sum += Integer.bitCount(waiting());
            }
            return sum;
        }

        void hearReading(Book book) {
            daysRead = book.count;
            for (int day = 0; day < daysRead; day++) {
                hear(book, day);
                alwaysOn[day] = always;
                everOn[day] = ever;
            }
        }

        /** How often a CASE flips, of the DAYS of reading that were heard; flipDays tells when. */
        int trace(int marks) {
            int times = 0;
            int was = NONE;
            for (int day = 0; day < daysRead; day++) {
                boolean one = hasBit(alwaysOn[day], marks);
                if (!one && hasBit(everOn[day], marks)) continue;
                int is = one ? 1 : 0;
                if (was != NONE && was != is) flipDays[times++] = day;
                was = is;
            }
            return times;
        }
    }

    /** Lays deeds on DAYS on which they are SURE to be 0. */
    private static final class Planner {
        /** The CASES that are SURE to be 0 on each DAY. */
        private final int[] clearOn = new int[DAYS];
        private final int[] deeds = new int[MOST_DEEDS];
        private int size;
        private final int[] days = new int[MOST_DEEDS];
        private final int[] tried = new int[MOST_DEEDS];
        private final int[] places = new int[MOST_DEEDS];
        /** The last DAY by the best plan; NONE without deeds. */
        private int soonest;

        void take(Shelf rows, int r, Court court, Book book) {
            size = Math.min(rows.sizeOf(r), MOST_DEEDS);
            for (int k = 0; k < size; k++) deeds[k] = rows.placeOf(r, k);
            for (int day = 0; day <= LAST_DAY; day++) {
                court.hear(book, day);
                clearOn[day] = ~court.ever;
            }
        }

        private int firstClear(int k, int from) {
            for (int day = from; day <= LAST_DAY; day++) if (hasBit(clearOn[day], deeds[k])) return day;
            return NONE;
        }

        boolean planAsTheyCome() {
            soonest = NONE;
            int from = 0;
            for (int k = 0; k < size; k++) {
                int day = firstClear(k, from);
                if (day == NONE) return false;
                days[k] = day;
                soonest = day;
                from = day + 1;
            }
            return true;
        }

        boolean planSoonest() {
            soonest = size == 0 ? NONE : NEVER;
            if (size > 0) tryFrom(0, 0, 0);
            return soonest != NEVER;
        }

        /** Orders are tried from the first one on, so only an earlier last DAY takes the place of the best. */
        private void tryFrom(int depth, int used, int from) {
            for (int k = 0; k < size && depth < size; k++) {
                if (hasBit(used, k)) continue;
                int day = firstClear(k, from);
                if (day == NONE || day >= soonest) continue;
                tried[depth] = k;
                if (depth + 1 < size) {
                    tryFrom(depth + 1, used | 1 << k, day + 1);
                } else {
                    soonest = day;
                    System.arraycopy(tried, 0, places, 0, size);
                }
            }
        }

        void tellDays(Shelf rows, int to) {
            rows.make(to, size, 0);
            for (int k = 0; k < size; k++) rows.write(to, k, days[k]);
        }

        void tellPlaces(Shelf rows, int to) {
            rows.make(to, size, 0);
            for (int k = 0; k < size; k++) rows.write(to, k, places[k]);
        }
    }

    /** Looks for the order of reading by which the fewest WAIT. */
    private static final class Orders {
        private final int[] tried = new int[MOST_PAGES];
        private final int[] best = new int[MOST_PAGES];
        private int least;

        void findBest(Book trial, Court court) {
            least = CASES * MOST_PAGES + 1;
            for (int i = 0; i < trial.count; i++) trial.pages[i].day = NEVER;
            tryDay(trial, court, 0, 0);
        }

        /**
         * What WAITS on a DAY hangs on nothing that is read later, so a beginning that is no better
         * than the best order is left; the first of alike orders stays, as it is met first.
         */
        private void tryDay(Book trial, Court court, int day, int waiting) {
            for (int i = 0; i < trial.count && day < trial.count; i++) {
                if (trial.pages[i].day != NEVER) continue;
                trial.pages[i].day = day;
                court.hear(trial, day);
                int sum = waiting + Integer.bitCount(court.waiting());
                if (sum < least) {
                    tried[day] = i;
                    goOn(trial, court, day, sum);
                }
                trial.pages[i].day = NEVER;
            }
        }

        private void goOn(Book trial, Court court, int day, int sum) {
            if (day + 1 < trial.count) {
                tryDay(trial, court, day + 1, sum);
            } else {
                least = sum;
                System.arraycopy(tried, 0, best, 0, trial.count);
            }
        }
    }
}
