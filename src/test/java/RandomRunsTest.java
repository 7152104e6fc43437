import java.util.Random;

/** Runs of calls by fixed seeds, each call on the class and on the model; every answer must be the same. */
public final class RandomRunsTest {
    private static final int RUNS = 400;
    private static final int MOST_CALLS = 512;
    private static final String[] NAMES = {
        "row", "lay", "at", "tear", "copy", "mean", "text", "put", "fault", "book", "page", "mark", "reverse",
        "swap", "read", "add", "rip", "keep", "on", "binds", "means", "meanings", "never", "verdict", "judge",
        "odds", "waits", "all", "free", "deeds", "order", "flips", "flip", "most", "matter", "front",
        "meant", "kinds", "lots", "count", "findings", "digest", "deedsRow", "meantRow", "readRow", "bookText"};
    private static final int[] WILD = {
        -1, -2, 6, 7, 21, 22, 31, 32, 33, 41, 45, 81, 99, 128, -128, 255, -9,
        Integer.MAX_VALUE, Integer.MIN_VALUE, Integer.MAX_VALUE - 1, 1 << 16};

    private final Random dice;
    private final LastPage x = new LastPage();
    private final Model m = new Model();
    private final String run;
    private int calls = 0;

    private RandomRunsTest(int seed) {
        dice = new Random(seed);
        run = "run " + seed + ": ";
    }

    /** A number as told, or at times one that is not. */
    private int num(int from, int to) {
        if (dice.nextInt(25) == 0) return WILD[dice.nextInt(WILD.length)];
        return from + dice.nextInt(to - from + 1);
    }

    private void same(String call, long got, long want) {
        calls++;
        Checks.due(run + call, got, want);
    }

    private void told(String call) {
        same(call + ", asked()", x.asked(), m.asked());
        same(call + ", finding()", x.finding(), m.finding());
    }

    private String words() {
        StringBuilder s = new StringBuilder();
        for (int w = 0; w < 7; w++) if (dice.nextInt(w < 5 ? 5 : 3) == 0) s.append(w);
        return s.toString();
    }

    private String item() {
        char letter = "peodsi".charAt(dice.nextInt(6));
        if (letter == 'd') return "d" + (5 + dice.nextInt(2)) + dice.nextInt(5);
        String to = letter == 'o' || letter == 'i' ? "" + dice.nextInt(6) : "";
        return letter + to + dice.nextInt(2) + words();
    }

    private String bookText() {
        StringBuilder s = new StringBuilder();
        int items = dice.nextInt(10) == 0 ? 7 : dice.nextInt(7);
        for (int i = 0; i < items; i++) {
            while (dice.nextInt(2) == 0) s.append(' ');
            s.append(item());
        }
        while (dice.nextInt(3) == 0) s.append(' ');
        if (dice.nextInt(4) == 0 && s.length() > 0) {
            String signs = " 0123456789peodsix" + (char) 200 + (char) 0;
            s.setCharAt(dice.nextInt(s.length()), signs.charAt(dice.nextInt(signs.length())));
        }
        if (s.length() > 80) s.setLength(80);
        return s.toString();
    }

    private void layText(int t) {
        String s = bookText();
        same("text", x.text(t, s.length()), m.text(t, s.length()));
        for (int i = 0; i < s.length(); i++) {
            if (s.charAt(i) != ' ') same("put", x.put(t, i, s.charAt(i)), m.put(t, i, s.charAt(i)));
        }
        same("fault of '" + s + "'", x.fault(t), m.fault(t));
        same("book of '" + s + "'", x.book(t), m.book(t));
    }

    private void layRow(int r, int... ints) {
        same("row", x.row(r, ints.length), m.row(r, ints.length));
        for (int i = 0; i < ints.length; i++) same("lay", x.lay(r, i, ints[i]), m.lay(r, i, ints[i]));
    }

    private void deedsRow() {
        int[] cases = new int[dice.nextInt(7)];
        for (int i = 0; i < cases.length; i++) cases[i] = num(0, 31);
        int r = dice.nextInt(6);
        layRow(r, cases);
        call("deeds", r, num(0, 5));
        call("order", r, num(0, 5));
    }

    private void meantRow() {
        int[] threes = new int[3 * dice.nextInt(3)];
        for (int i = 0; i < threes.length; i++) {
            threes[i] = i % 3 == 0 ? num(0, 31) : i % 3 == 1 ? num(0, 8) : num(0, 1);
        }
        int r = dice.nextInt(6);
        layRow(r, threes);
        call("meant", r, 0);
    }

    private void readRow() {
        int n = m.count(0);
        int[] order = new int[n];
        for (int i = 0; i < n; i++) order[i] = i;
        for (int i = n - 1; i > 0; i--) {
            int j = dice.nextInt(i + 1);
            int v = order[i];
            order[i] = order[j];
            order[j] = v;
        }
        int r = dice.nextInt(6);
        layRow(r, order);
        call("read", r, 0);
    }

    /** A call whose first two numbers are given; the others are by lot. */
    private void call(String name, int a, int b) {
        String c = name + "(" + a + ", " + b + ", ..)";
        switch (name) {
            case "row" -> same(c, x.row(a, b), m.row(a, b));
            case "tear" -> same(c, x.tear(a), m.tear(a));
            case "mean" -> same(c, x.mean(a), m.mean(a));
            case "text" -> same(c, x.text(a, b), m.text(a, b));
            case "at" -> same(c, x.at(a, b), m.at(a, b));
            case "fault" -> same(c, x.fault(a), m.fault(a));
            case "book" -> same(c, x.book(a), m.book(a));
            case "page" -> same(c, x.page(a, b), m.page(a, b));
            case "mark" -> same(c, x.mark(a, b), m.mark(a, b));
            case "reverse" -> same(c, x.reverse(a, b), m.reverse(a, b));
            case "swap" -> same(c, x.swap(a, b), m.swap(a, b));
            case "read" -> same(c, x.read(a), m.read(a));
            case "add" -> same(c, x.add(a, b), m.add(a, b));
            case "keep" -> same(c, x.keep(a), m.keep(a));
            case "on" -> same(c, x.on(a), m.on(a));
            case "binds" -> same(c, x.binds(a), m.binds(a));
            case "means" -> same(c, x.means(a, b), m.means(a, b));
            case "meanings" -> same(c, x.meanings(a), m.meanings(a));
            case "verdict" -> same(c, x.verdict(a, b), m.verdict(a, b));
            case "waits" -> same(c, x.waits(a), m.waits(a));
            case "free" -> same(c, x.free(a, b), m.free(a, b));
            case "deeds" -> same(c, x.deeds(a, b), m.deeds(a, b));
            case "order" -> same(c, x.order(a, b), m.order(a, b));
            case "flips" -> same(c, x.flips(a), m.flips(a));
            case "flip" -> same(c, x.flip(a, b), m.flip(a, b));
            case "matter" -> same(c, x.matter(a, b), m.matter(a, b));
            case "meant" -> same(c, x.meant(a), m.meant(a));
            case "lots" -> same(c, x.lots(a, b), m.lots(a, b));
            case "count" -> same(c, x.count(a), m.count(a));
            case "findings" -> same(c, x.findings(a), m.findings(a));
            case "best" -> same(c, x.best(a), m.best(a));
            default -> throw new IllegalArgumentException(name);
        }
        told(c);
    }

    private void lotsCall() {
        call("lots", num(1, 60), dice.nextInt(3) == 0 ? num(1, 3) : dice.nextInt());
    }

    private void longCall(String name) {
        int a = num(0, 5);
        int b = num(0, 31);
        int c = num(0, 8);
        int d = num(0, 5);
        int e = num(0, 4);
        switch (name) {
            case "lay" -> same("lay", x.lay(a, e, b), m.lay(a, e, b));
            case "put" -> same("put", x.put(d, b, c * 40), m.put(d, b, c * 40));
            case "copy" -> same("copy", x.copy(a, c / 2, d, e, b / 8), m.copy(a, c / 2, d, e, b / 8));
            case "judge" -> same("judge", x.judge(b, 10 * e + d, c), m.judge(b, 10 * e + d, c));
            case "kinds" -> same("kinds", x.kinds(a, b, c, e / 2), m.kinds(a, b, c, e / 2));
            case "odds" -> {
                same("odds", x.odds(b, c), m.odds(b, c));
                same("upper", x.upper(), m.upper());
                same("lower", x.lower(), m.lower());
            }
            case "rip" -> same("rip", x.rip(), m.rip());
            case "never" -> same("never", x.never(), m.never());
            case "all" -> same("all", x.all(), m.all());
            case "most" -> same("most", x.most(), m.most());
            case "front" -> same("front", x.front(), m.front());
            case "digest" -> same("digest", x.digest(), m.digest());
            default -> throw new IllegalArgumentException(name);
        }
        told(name);
    }

    private void step() {
        String name = NAMES[dice.nextInt(NAMES.length)];
        switch (name) {
            case "row" -> call(name, num(0, 5), num(0, 9));
            case "text" -> call(name, num(0, 3), num(0, 9));
            case "at" -> call(name, num(0, 5), num(0, 9));
            case "tear", "mean", "read", "meant" -> call(name, num(0, 5), 0);
            case "fault" -> call(name, num(0, 3), 0);
            case "book" -> call(name, dice.nextInt(4) == 0 ? num(0, 3) : -1, 0);
            case "page", "mark", "swap" -> call(name, num(0, 5), num(0, 5));
            case "reverse" -> call(name, num(0, 5), num(0, 1));
            case "add" -> call(name, num(0, 1), num(0, 127));
            case "keep", "on" -> call(name, num(0, 2), 0);
            case "binds", "meanings", "waits" -> call(name, num(0, 9), 0);
            case "means" -> call(name, num(5, 6), num(0, 9));
            case "verdict", "free" -> call(name, num(0, 31), num(0, 9));
            case "deeds", "order" -> call(name, num(0, 5), num(0, 5));
            case "flips" -> call(name, num(0, 31), 0);
            case "flip" -> call(name, num(0, 31), num(0, 3));
            case "matter" -> call(name, num(0, 5), num(0, 9));
            case "lots" -> lotsCall();
            case "count" -> call(name, num(0, 6), 0);
            case "findings" -> call(name, num(1, 5), 0);
            case "deedsRow" -> deedsRow();
            case "meantRow" -> meantRow();
            case "readRow" -> readRow();
            case "bookText" -> {
                if (dice.nextInt(3) == 0) layText(dice.nextInt(4));
            }
            default -> longCall(name);
        }
    }

    private void go() {
        layText(0);
        boolean smallBook = m.count(0) < 6;
        if (smallBook || dice.nextInt(8) == 0) call("best", num(0, 5), 0);
        while (calls < MOST_CALLS - 130) step();
        same("digest", x.digest(), m.digest());
    }

    public static void main(String[] args) {
        for (int seed = 1; seed <= RUNS; seed++) new RandomRunsTest(seed).go();
        Checks.end("RandomRunsTest");
    }
}
