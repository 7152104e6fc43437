import java.util.ArrayList;
import java.util.List;
import java.util.TreeMap;
import java.util.TreeSet;
import java.util.regex.Matcher;
import java.util.regex.Pattern;

/**
 * The document once more, as slow and plain as can be: each case by each meaning, each order, one by one.
 * It shares nothing with the class, so that a slip in one of them shows as an answer of the other.
 */
final class Model {
    static final int BAD = -1, FULL = -2, FINDING = -3, STATE = -4, SPENT = -6, NONE = -9;
    private static final String LETTERS = "peodsi";
    private static final String WORDS = "0?1?2?3?4?5?6?";
    private static final Pattern BOOK = Pattern.compile(
        " *((([pes]|[oi][0-5])[01]" + WORDS + "|d[56][0-4]) *){0,6}");

    static final class Leaf {
        char letter;
        int verdict;
        int to = NONE;
        int fact = NONE;
        TreeSet<Integer> words = new TreeSet<>();
        int day;

        Leaf copy() {
            Leaf c = new Leaf();
            c.letter = letter;
            c.verdict = verdict;
            c.to = to;
            c.fact = fact;
            c.words = new TreeSet<>(words);
            c.day = day;
            return c;
        }

        boolean is(String letters) {
            return letters.indexOf(letter) >= 0;
        }

        int bits() {
            int b = 0;
            for (int w : words) b |= 1 << w;
            return b;
        }

        int weighs() {
            return words.size() + (is("es") ? 10 : 0);
        }
    }

    private final TreeMap<Integer, int[]> rows = new TreeMap<>();
    private final TreeMap<Integer, byte[]> texts = new TreeMap<>();
    private final TreeMap<Integer, List<Leaf>> kept = new TreeMap<>();
    private List<Leaf> book = new ArrayList<>();
    private final int[] found = new int[6];
    private int finding = 0;
    private int asked = 0;
    private long upper = 0;
    private long lower = 1;

    private int find(int f) {
        finding = f;
        found[f]++;
        return FINDING;
    }

    private static boolean in(int v, int from, int to) {
        return from <= v && v <= to;
    }

    private static List<Leaf> copyOf(List<Leaf> pages) {
        List<Leaf> c = new ArrayList<>();
        for (Leaf p : pages) c.add(p.copy());
        return c;
    }

    int row(int r, int n) {
        if (!in(r, 0, 5) || n > 40) return BAD;
        if (n < 0) return find(5);
        rows.put(r, new int[n]);
        return n;
    }

    private int place(int r, int i) {
        if (!in(r, 0, 5)) return BAD;
        if (!rows.containsKey(r)) return find(1);
        if (!in(i, 0, rows.get(r).length - 1)) return find(2);
        asked = rows.get(r)[i];
        return 1;
    }

    int lay(int r, int i, int v) {
        int a = place(r, i);
        if (a == 1) rows.get(r)[i] = v;
        return a;
    }

    int at(int r, int i) {
        return place(r, i);
    }

    int tear(int r) {
        if (!in(r, 0, 5)) return BAD;
        return rows.remove(r) == null ? find(1) : 1;
    }

    int copy(int r, int i, int to, int j, int n) {
        if (!in(r, 0, 5) || !in(to, 0, 5)) return BAD;
        if (n < 0) return find(5);
        if (!rows.containsKey(r) || !rows.containsKey(to)) return find(1);
        int[] from = rows.get(r).clone();
        int[] into = rows.get(to);
        if (i < 0 || j < 0 || (long) i + n > from.length || (long) j + n > into.length) return find(2);
        for (int k = 0; k < n; k++) into[j + k] = from[i + k];
        return 1;
    }

    int mean(int r) {
        if (!in(r, 0, 5)) return BAD;
        if (!rows.containsKey(r)) return find(1);
        int[] row = rows.get(r);
        if (row.length == 0) return find(4);
        long sum = 0;
        for (int v : row) sum += v;
        asked = (int) (sum / row.length);
        return 1;
    }

    int text(int t, int n) {
        if (!in(t, 0, 3) || n > 80) return BAD;
        if (n < 0) return find(5);
        byte[] b = new byte[n];
        java.util.Arrays.fill(b, (byte) 32);
        texts.put(t, b);
        return n;
    }

    int put(int t, int i, int v) {
        if (!in(t, 0, 3)) return BAD;
        if (!texts.containsKey(t)) return find(1);
        byte[] b = texts.get(t);
        if (!in(i, 0, b.length - 1)) return find(2);
        int was = b[i];
        b[i] = (byte) v;
        return was + 1000;
    }

    private static String signs(byte[] b) {
        StringBuilder s = new StringBuilder();
        for (byte x : b) s.append((char) (x & 255));
        return s.toString();
    }

    /** A beginning that could still become a book by more signs is no fault yet. */
    private static int faultIn(String s) {
        for (int k = 1; k <= s.length(); k++) {
            Matcher m = BOOK.matcher(s.substring(0, k));
            if (!m.matches() && !m.hitEnd()) return k - 1;
        }
        return BOOK.matcher(s).matches() ? NONE : s.length();
    }

    int fault(int t) {
        if (!in(t, 0, 3)) return BAD;
        if (!texts.containsKey(t)) return find(1);
        return faultIn(signs(texts.get(t)));
    }

    int book(int t) {
        if (!in(t, 0, 3)) return BAD;
        if (!texts.containsKey(t)) return find(1);
        String s = signs(texts.get(t));
        if (faultIn(s) != NONE) return STATE;
        book = new ArrayList<>();
        kept.clear();
        Matcher m = Pattern.compile("[a-z][0-9]+").matcher(s);
        while (m.find()) book.add(leafOf(m.group()));
        for (int i = 0; i < book.size(); i++) book.get(i).day = book.size() - 1 - i;
        return book.size();
    }

    private static Leaf leafOf(String item) {
        Leaf p = new Leaf();
        p.letter = item.charAt(0);
        String figures = item.substring(1);
        if (p.letter == 'd') {
            p.words.add(figures.charAt(0) - '0');
            p.fact = figures.charAt(1) - '0';
            return p;
        }
        if (p.is("oi")) {
            p.to = figures.charAt(0) - '0';
            figures = figures.substring(1);
        }
        p.verdict = figures.charAt(0) - '0';
        for (char c : figures.substring(1).toCharArray()) p.words.add(c - '0');
        return p;
    }

    private boolean isPage(int i) {
        return in(i, 0, book.size() - 1);
    }

    private int tell(Leaf p, int what) {
        int[] all = {LETTERS.indexOf(p.letter), p.verdict, p.bits(), p.to, p.fact, p.day};
        return all[what];
    }

    int page(int i, int what) {
        if (!isPage(i) || !in(what, 0, 5)) return BAD;
        asked = tell(book.get(i), what);
        return 1;
    }

    int mark(int i, int kind) {
        if (!isPage(i) || !in(kind, 1, 5)) return BAD;
        Leaf p = book.get(i);
        String[] letters = {"", "es", "oi", "d", "s", "i"};
        if (!p.is(letters[kind])) return find(3);
        if (kind == 1) return p.weighs();
        if (kind == 2) return binding(book, i, 20, -1) ? 1 : 0;
        if (kind == 3) {
            int n = 0;
            for (Leaf q : book) if (q.letter != 'd' && q.words.contains(p.words.first())) n++;
            return n;
        }
        int first = NONE;
        int last = NONE;
        for (int day = 20; day >= 0; day--) {
            if (!binding(book, i, day, -1)) continue;
            first = day;
            if (last == NONE) last = day;
        }
        return kind == 4 ? last : first;
    }

    int reverse(int i, int v) {
        if (!isPage(i) || !in(v, 0, 1)) return BAD;
        Leaf p = book.get(i);
        if (p.letter == 'd') return find(3);
        int was = p.verdict;
        p.verdict = v;
        return was;
    }

    int swap(int i, int j) {
        if (!isPage(i) || !isPage(j)) return BAD;
        int a = book.get(i).day;
        int b = book.get(j).day;
        book.get(i).day = b;
        book.get(j).day = a;
        return b;
    }

    int read(int r) {
        if (!in(r, 0, 5)) return BAD;
        if (book.isEmpty()) return STATE;
        if (!rows.containsKey(r)) return find(1);
        int[] row = rows.get(r);
        if (row.length != book.size()) return find(5);
        TreeSet<Integer> named = new TreeSet<>();
        for (int v : row) if (isPage(v)) named.add(v);
        if (named.size() != book.size()) return find(3);
        for (int day = 0; day < row.length; day++) book.get(row[day]).day = day;
        return 1;
    }

    int add(int verdict, int words) {
        if (!in(verdict, 0, 1) || !in(words, 0, 127)) return BAD;
        if (book.size() == 6) return FULL;
        Leaf p = new Leaf();
        p.letter = 'p';
        p.verdict = verdict;
        for (int w = 0; w < 7; w++) if ((words & 1 << w) != 0) p.words.add(w);
        p.day = book.size();
        book.add(p);
        return book.size() - 1;
    }

    int rip() {
        if (book.isEmpty()) return STATE;
        Leaf torn = book.remove(book.size() - 1);
        for (Leaf p : book) if (p.day > torn.day) p.day--;
        return book.size();
    }

    int keep(int k) {
        if (!in(k, 0, 2)) return BAD;
        if (book.isEmpty()) return STATE;
        kept.put(k, copyOf(book));
        return book.size();
    }

    int on(int k) {
        if (!in(k, 0, 2)) return BAD;
        if (!kept.containsKey(k)) return find(1);
        book = copyOf(kept.get(k));
        return book.size();
    }

    private static boolean binding(List<Leaf> pages, int i, int day, int out) {
        return binding(pages, i, day, out, new TreeSet<>());
    }

    private static boolean binding(List<Leaf> pages, int i, int day, int out, TreeSet<Integer> seen) {
        if (i >= pages.size() || i == out || !seen.add(i)) return false;
        Leaf p = pages.get(i);
        boolean wasRead = p.day <= day;
        if (p.letter == 'i') return binding(pages, p.to, day, out, seen);
        if (p.letter == 'o') return wasRead && binding(pages, p.to, day, out, seen);
        if (p.letter == 's') return day == p.day || day == p.day + 1 || day == p.day + 2;
        return wasRead;
    }

    int binds(int day) {
        if (!in(day, 0, 20)) return BAD;
        int bits = 0;
        for (int i = 0; i < book.size(); i++) if (binding(book, i, day, -1)) bits |= 1 << i;
        return bits;
    }

    private static TreeSet<Integer> meaning(List<Leaf> pages, int word, int day, int out) {
        Leaf last = null;
        for (int i = 0; i < pages.size(); i++) {
            Leaf p = pages.get(i);
            if (p.letter != 'd' || !p.words.contains(word) || !binding(pages, i, day, out)) continue;
            if (last == null || p.day > last.day) last = p;
        }
        TreeSet<Integer> facts = new TreeSet<>();
        for (int f = 0; f < 5; f++) if (last == null || last.fact == f) facts.add(f);
        return facts;
    }

    int means(int word, int day) {
        if (!in(word, 5, 6) || !in(day, 0, 20)) return BAD;
        int bits = 0;
        for (int f : meaning(book, word, day, -1)) bits |= 1 << f;
        return bits;
    }

    int meanings(int day) {
        if (!in(day, 0, 20)) return BAD;
        return meaning(book, 5, day, -1).size() * meaning(book, 6, day, -1).size();
    }

    int never() {
        int bits = 0;
        int ring = 0;
        for (int i = 0; i < book.size(); i++) {
            boolean ever = false;
            for (int day = 0; day <= 20; day++) ever |= binding(book, i, day, -1);
            if (ever) continue;
            bits |= 1 << i;
            if (comesBack(i)) ring |= 1 << i;
        }
        asked = ring;
        return bits;
    }

    private boolean comesBack(int i) {
        int p = i;
        for (int step = 0; step < 20; step++) {
            if (!isPage(p) || !book.get(p).is("oi")) return false;
            p = book.get(p).to;
            if (p == i) return true;
        }
        return false;
    }

    private static int judged(List<Leaf> pages, int marks, int five, int six, int day, int out) {
        int by = NONE;
        for (int i = 0; i < pages.size(); i++) {
            Leaf p = pages.get(i);
            if (p.letter == 'd' || !binding(pages, i, day, out)) continue;
            boolean fits = true;
            for (int w : p.words) {
                int fact = w == 5 ? five : w == 6 ? six : w;
                fits &= (marks & 1 << fact) != 0;
            }
            if (fits && (by == NONE || p.weighs() > pages.get(by).weighs())) by = i;
        }
        return by;
    }

    private static int ruled(List<Leaf> pages, int marks, int five, int six, int day, int out) {
        int by = judged(pages, marks, five, six, day, out);
        return by == NONE ? 0 : pages.get(by).verdict;
    }

    /** How often 0 (place 0) and 1 (place 1) is the verdict. */
    private static int[] tally(List<Leaf> pages, int marks, int day, int out) {
        int[] n = new int[2];
        for (int five : meaning(pages, 5, day, out)) {
            for (int six : meaning(pages, 6, day, out)) n[ruled(pages, marks, five, six, day, out)]++;
        }
        return n;
    }

    private static int state(List<Leaf> pages, int marks, int day, int out) {
        int[] n = tally(pages, marks, day, out);
        return n[1] == 0 ? 0 : n[0] == 0 ? 1 : NONE;
    }

    int verdict(int marks, int day) {
        if (!in(marks, 0, 31) || !in(day, 0, 20)) return BAD;
        asked = tally(book, marks, day, -1)[1];
        return state(book, marks, day, -1);
    }

    int judge(int marks, int meaning, int day) {
        if (!in(marks, 0, 31) || !in(day, 0, 20)) return BAD;
        for (int five : meaning(book, 5, day, -1)) {
            for (int six : meaning(book, 6, day, -1)) {
                if (five * 10 + six == meaning) return judged(book, marks, five, six, day, -1);
            }
        }
        return BAD;
    }

    int odds(int marks, int day) {
        if (!in(marks, 0, 31) || !in(day, 0, 20)) return BAD;
        int[] n = tally(book, marks, day, -1);
        long a = n[1];
        long b = n[0] + n[1];
        for (long d = 2; d <= 25; d++) {
            while (a % d == 0 && b % d == 0) {
                a /= d;
                b /= d;
            }
        }
        upper = a;
        lower = b;
        return 1;
    }

    private static int waiting(List<Leaf> pages, int day) {
        int n = 0;
        for (int marks = 0; marks < 32; marks++) if (state(pages, marks, day, -1) == NONE) n++;
        return n;
    }

    int waits(int day) {
        if (!in(day, 0, 20)) return BAD;
        asked = 0;
        for (int marks = 0; marks < 32; marks++) if (state(book, marks, day, -1) == 1) asked++;
        return waiting(book, day);
    }

    private static int total(List<Leaf> pages) {
        int n = 0;
        for (int day = 0; day < pages.size(); day++) n += waiting(pages, day);
        return n;
    }

    int all() {
        return total(book);
    }

    int free(int marks, int day) {
        if (!in(marks, 0, 31) || !in(day, 0, 20)) return BAD;
        for (int d = day; d <= 20; d++) if (state(book, marks, d, -1) == 0) return d;
        return NONE;
    }

    private int refusedDeeds(int r, int to, int most) {
        if (!in(r, 0, 5) || !in(to, 0, 5)) return BAD;
        if (!rows.containsKey(r)) return find(1);
        if (rows.get(r).length > most) return find(5);
        for (int v : rows.get(r)) if (!in(v, 0, 31)) return find(3);
        return 0;
    }

    /** The days of deeds in an order of places; null: not till day 20. */
    private int[] daysOf(int[] row, List<Integer> places) {
        int[] days = new int[places.size()];
        int from = 0;
        for (int k = 0; k < days.length; k++) {
            int day = from;
            while (day <= 20 && state(book, row[places.get(k)], day, -1) != 0) day++;
            if (day > 20) return null;
            days[k] = day;
            from = day + 1;
        }
        return days;
    }

    int deeds(int r, int to) {
        int refused = refusedDeeds(r, to, 8);
        if (refused != 0) return refused;
        List<Integer> places = new ArrayList<>();
        for (int k = 0; k < rows.get(r).length; k++) places.add(k);
        int[] days = daysOf(rows.get(r), places);
        if (days == null) return SPENT;
        rows.put(to, days);
        return days.length == 0 ? NONE : days[days.length - 1];
    }

    private static List<List<Integer>> ordersOf(int n) {
        List<List<Integer>> out = new ArrayList<>();
        out.add(new ArrayList<>());
        for (int k = 0; k < n; k++) {
            List<List<Integer>> more = new ArrayList<>();
            for (List<Integer> o : out) {
                for (int i = 0; i < n; i++) {
                    if (o.contains(i)) continue;
                    List<Integer> longer = new ArrayList<>(o);
                    longer.add(i);
                    more.add(longer);
                }
            }
            out = more;
        }
        return out;
    }

    private static int[] ints(List<Integer> list) {
        int[] a = new int[list.size()];
        for (int i = 0; i < a.length; i++) a[i] = list.get(i);
        return a;
    }

    int order(int r, int to) {
        int refused = refusedDeeds(r, to, 5);
        if (refused != 0) return refused;
        int[] row = rows.get(r);
        if (row.length == 0) {
            rows.put(to, new int[0]);
            return NONE;
        }
        int least = 99;
        List<Integer> first = null;
        for (List<Integer> o : ordersOf(row.length)) {
            int[] days = daysOf(row, o);
            if (days == null || days[days.length - 1] >= least) continue;
            least = days[days.length - 1];
            first = o;
        }
        if (first == null) return SPENT;
        rows.put(to, ints(first));
        return least;
    }

    /** The days on which a case flips. */
    private List<Integer> flipDays(int marks) {
        List<Integer> days = new ArrayList<>();
        int was = NONE;
        for (int day = 0; day < book.size(); day++) {
            int is = state(book, marks, day, -1);
            if (is == NONE) continue;
            if (was == 1 - is) days.add(day);
            was = is;
        }
        return days;
    }

    int flips(int marks) {
        return in(marks, 0, 31) ? flipDays(marks).size() : BAD;
    }

    int flip(int marks, int n) {
        if (!in(marks, 0, 31) || n < 0) return BAD;
        List<Integer> days = flipDays(marks);
        if (n >= days.size()) return NONE;
        for (int i = 0; i < book.size(); i++) if (book.get(i).day == days.get(n)) return i;
        return NONE;
    }

    int most() {
        int first = 0;
        for (int marks = 1; marks < 32; marks++) if (flips(marks) > flips(first)) first = marks;
        asked = flips(first);
        return first;
    }

    int matter(int i, int day) {
        if (!isPage(i) || !in(day, 0, 20)) return BAD;
        int n = 0;
        for (int marks = 0; marks < 32; marks++) if (state(book, marks, day, -1) != state(book, marks, day, i)) n++;
        return n;
    }

    private int totalBy(List<Integer> order) {
        List<Leaf> pages = copyOf(book);
        for (int day = 0; day < order.size(); day++) pages.get(order.get(day)).day = day;
        return total(pages);
    }

    int best(int r) {
        if (!in(r, 0, 5)) return BAD;
        if (book.isEmpty()) return STATE;
        int least = Integer.MAX_VALUE;
        List<Integer> first = null;
        for (List<Integer> o : ordersOf(book.size())) {
            int n = totalBy(o);
            if (n >= least) continue;
            least = n;
            first = o;
        }
        rows.put(r, ints(first));
        return least;
    }

    int front() {
        List<Integer> up = new ArrayList<>();
        List<Integer> down = new ArrayList<>();
        for (int i = 0; i < book.size(); i++) {
            up.add(i);
            down.add(0, i);
        }
        asked = totalBy(down);
        return totalBy(up);
    }

    int meant(int r) {
        if (!in(r, 0, 5)) return BAD;
        if (!rows.containsKey(r)) return find(1);
        int[] row = rows.get(r);
        if (row.length % 3 != 0) return find(5);
        for (int k = 0; k < row.length; k += 3) {
            if (!in(row[k], 0, 31) || !in(row[k + 1], 0, 20) || !in(row[k + 2], 0, 1)) return find(3);
        }
        int ways = 0;
        asked = 0;
        for (int m = 0; m < 25; m++) {
            boolean fits = true;
            for (int k = 0; k < row.length; k += 3) {
                fits &= ruled(book, row[k], m / 5, m % 5, row[k + 1], -1) == row[k + 2];
            }
            if (!fits) continue;
            ways++;
            asked |= 1 << m / 5;
        }
        return ways;
    }

    int kinds(int i, int marks, int day, int verdict) {
        if (!isPage(i) || !in(marks, 0, 31) || !in(day, 0, 20) || !in(verdict, 0, 1)) return BAD;
        if (!book.get(i).is("pes")) return find(3);
        int bits = 0;
        for (char letter : "pes".toCharArray()) {
            List<Leaf> pages = copyOf(book);
            pages.get(i).letter = letter;
            if (state(pages, marks, day, -1) == verdict) bits |= 1 << LETTERS.indexOf(letter);
        }
        return bits;
    }

    int lots(int n, int seed) {
        if (!in(n, 1, 60) || !in(seed, 1, 2147483646)) return BAD;
        java.math.BigInteger x = java.math.BigInteger.valueOf(seed);
        int waiting = 0;
        for (int k = 0; k < n; k++) {
            x = x.multiply(java.math.BigInteger.valueOf(48271)).mod(java.math.BigInteger.valueOf(2147483647));
            int v = x.intValueExact();
            if (state(book, v % 32, v / 32 % 21, -1) == NONE) waiting++;
        }
        return waiting;
    }

    int asked() {
        return asked;
    }

    long upper() {
        return upper;
    }

    long lower() {
        return lower;
    }

    private int having(String letters) {
        int n = 0;
        for (Leaf p : book) if (p.is(letters)) n++;
        return n;
    }

    int count(int what) {
        if (!in(what, 0, 6)) return BAD;
        int[] all = {book.size(), having("d"), having("es"), having("oi"), rows.size(), texts.size(), kept.size()};
        return all[what];
    }

    int finding() {
        return finding;
    }

    int findings(int f) {
        return in(f, 1, 5) ? found[f] : BAD;
    }

    long digest() {
        List<Integer> vs = new ArrayList<>();
        for (int what = 0; what < 7; what++) vs.add(count(what));
        for (Leaf p : book) for (int what = 0; what < 6; what++) vs.add(tell(p, what));
        for (int k = 0; k < 3; k++) vs.add(kept.containsKey(k) ? kept.get(k).size() : -1);
        for (int r = 0; r < 6; r++) {
            vs.add(rows.containsKey(r) ? rows.get(r).length : -1);
            if (rows.containsKey(r)) for (int v : rows.get(r)) vs.add(v);
        }
        for (int t = 0; t < 4; t++) {
            vs.add(texts.containsKey(t) ? texts.get(t).length : -1);
            if (texts.containsKey(t)) for (byte v : texts.get(t)) vs.add((int) v);
        }
        long h = 17;
        for (int v : vs) h = 31 * h + v;
        return h;
    }
}
