import java.math.BigInteger;
import java.util.ArrayList;
import java.util.List;

/** Edges of the promises 42 to 48: what is told. */
final class ToldEdges {
    private ToldEdges() {
    }

    static void all() {
        refusals();
        refusedChangesNothing();
        asked();
        askedStays();
        fractions();
        count();
        finding();
        findings();
        digest();
    }

    private static void refusals() {
        Edges.test(46, "BAD -1 (a number that is none, or not as told), FULL -2, STATE -4 (not now), SPENT -6 (more than told),", () -> {
            LastPage x = new LastPage();
            Edges.due("a number that is none", x.row(6, 1), -1);
            Edges.due("not as told", x.row(0, 41), -1);
            Edges.due("not now", x.rip(), -4);
            for (int i = 0; i < 6; i++) x.add(1, 0);
            Edges.due("full", x.add(1, 0), -2);
            x.row(0, 1);
            Edges.due("more than told", x.deeds(0, 0), -6);
        });
        Edges.test(46, "FINDING -3 (finding() tells which), unless a call says so otherwise. NONE -9.", () -> {
            LastPage x = new LastPage();
            Edges.due("a FINDING", x.tear(0), -3);
            Edges.due("which", x.finding(), 1);
            Edges.due("none", x.flip(0, 0), -9);
            Edges.due("none is no FINDING", x.findings(1), 1);
        });
        Edges.test(46, "2 BEYOND (a place that there is not),", () -> {
            Edges.found(Edges::rich, "of a ROW", x -> x.at(0, 3), 2);
            Edges.found(Edges::rich, "of a TEXT", x -> x.put(1, 4, 0), 2);
            Edges.found(Edges::rich, "to copy", x -> x.copy(0, 0, 1, 0, 4), 2);
        });
        Edges.test(46, "5 SIZE (fewer than none; too many, not as many as due).", () -> {
            Edges.found(Edges::rich, "fewer than none", x -> x.text(0, -1), 5);
            Edges.found(Edges::rich, "too many", x -> x.order(3, 0), 5);
            Edges.found(Edges::rich, "not as many as due", x -> x.read(0), 5);
            Edges.found(Edges::rich, "not by threes", x -> x.meant(1), 5);
        });
        Edges.test(21, "Sets (of PAGES, of WORDS, of FACTS, of KINDS) are told by bits.", () -> {
            LastPage x = Checks.bookOf("p00123456 p0 p0 p0 p0 s0");
            Edges.due("the last PAGE alone", x.binds(0), 32);
            Edges.due("all PAGES but that", x.binds(20), 31);
            Edges.dueTold("all WORDS", x, x.page(0, 2), 1, 127);
            Edges.due("all FACTS", x.means(5, 0), 31);
            Edges.due("all three KINDS", x.kinds(5, 0, 0, 0), 19);
        });
    }

    /** One of each call that can be refused, all on one object. */
    private static void refusedChangesNothing() {
        Edges.Call[] calls = {
            x -> x.row(6, 0), x -> x.row(0, -1), x -> x.lay(0, 3, 9), x -> x.at(5, 0), x -> x.tear(5),
            x -> x.copy(0, 0, 5, 0, 1), x -> x.mean(2), x -> x.text(0, 81), x -> x.text(0, -1), x -> x.put(2, 0, 0),
            x -> x.fault(3), x -> x.book(1), x -> x.book(3), x -> x.page(6, 0), x -> x.mark(0, 5),
            x -> x.reverse(3, 1), x -> x.swap(0, 6), x -> x.read(0), x -> x.add(0, 0), x -> x.keep(3), x -> x.on(1),
            x -> x.binds(21), x -> x.means(4, 0), x -> x.meanings(-1), x -> x.verdict(32, 0), x -> x.judge(0, 3, 20),
            x -> x.odds(0, 21), x -> x.waits(21), x -> x.free(-1, 0), x -> x.deeds(3, 0), x -> x.order(3, 0),
            x -> x.flips(32), x -> x.flip(0, -1), x -> x.matter(6, 0), x -> x.best(6), x -> x.meant(1),
            x -> x.kinds(2, 0, 0, 0), x -> x.lots(61, 1), x -> x.count(7), x -> x.findings(6)};
        Edges.test(46, "What is refused changes nothing but finding(), findings().", () -> {
            LastPage x = new LastPage();
            LastPage twin = new LastPage();
            Edges.rich(x);
            Edges.rich(twin);
            for (int k = 0; k < calls.length; k++) {
                long answer = calls[k].answer(x);
                Edges.due("call " + k + " is refused", answer < 0 && answer != Edges.NONE ? 1 : 0, 1);
            }
            Edges.dueAlike("one behind the other", x, twin);
        });
    }

    private static void asked() {
        Edges.test(42, "What the latest lay(), at(), mean(), page(), never(), verdict(), waits(), most(), front(), meant()", () -> {
            LastPage x = Checks.bookOf("o01 p1 p15");
            Checks.layRow(x, 0, 4, 7);
            Edges.dueTold("lay", x, x.lay(0, 0, 8), 1, 4);
            Edges.dueTold("at", x, x.at(0, 0), 1, 8);
            Edges.dueTold("mean", x, x.mean(0), 1, 7);
            Edges.dueTold("page", x, x.page(2, 2), 1, 32);
            Edges.dueTold("never", x, x.never(), 1, 1);
            Edges.dueTold("verdict", x, x.verdict(31, 20), 1, 25);
            Edges.dueTold("waits", x, x.waits(1), 0, 32);
            Edges.dueTold("most", x, x.most(), 0, 1);
            Edges.dueTold("front", x, x.front(), 0, 30);
            x.row(1, 0);
            Edges.dueTold("meant", x, x.meant(1), 25, 31);
            Edges.due("told again", x.asked(), 31);
        });
        Edges.test(42, "told; 0 before.", () -> Edges.due("at first", new LastPage().asked(), 0));
        Edges.test(42, "(nor NONE, but as told)", () -> {
            LastPage x = Checks.bookOf("p15");
            x.verdict(31, 0);
            Edges.dueTold("verdict() tells it by NONE, too", x, x.verdict(1, 0), Edges.NONE, 5);
            Edges.dueTold("flip() does not", x, x.flip(0, 0), Edges.NONE, 5);
            Edges.dueTold("judge() does not", x, x.judge(0, 0, 0), Edges.NONE, 5);
            Edges.dueTold("free() does not", x, x.free(31, 0), Edges.NONE, 5);
            Edges.dueTold("page() that tells NONE does", x, x.page(0, 3), 1, Edges.NONE);
        });
    }

    private static void refusedTelling(String what, Edges.Call call) {
        LastPage x = new LastPage();
        Edges.rich(x);
        Edges.due(what, call.answer(x) < 0 ? 1 : 0, 1);
        Edges.due(what + ", asked()", x.asked(), -7);
    }

    private static void askedStays() {
        Edges.test(42, "that was not refused", () -> {
            refusedTelling("lay", x -> x.lay(0, 9, 1));
            refusedTelling("at", x -> x.at(0, 9));
            refusedTelling("mean", x -> x.mean(2));
            refusedTelling("page", x -> x.page(6, 0));
            refusedTelling("verdict", x -> x.verdict(32, 0));
            refusedTelling("waits", x -> x.waits(21));
            refusedTelling("meant", x -> x.meant(1));
        });
    }

    private static void dueFraction(String what, LastPage x, int upper, int lower) {
        Edges.due(what + ", upper()", x.upper(), upper);
        Edges.due(what + ", lower()", x.lower(), lower);
    }

    private static void fractions() {
        Edges.test(43, "The upper number that was told last; 0 before.", () -> {
            LastPage x = Checks.bookOf("p15");
            dueFraction("before", x, 0, 1);
            x.odds(7, 0);
            dueFraction("3 of 5", x, 3, 5);
            x.odds(31, 0);
            dueFraction("all", x, 1, 1);
            x.odds(7, 0);
            x.odds(0, 0);
            dueFraction("none", x, 0, 1);
            x.odds(15, 0);
            x.odds(32, 0);
            x.odds(0, 21);
            x.verdict(31, 0);
            dueFraction("stays", x, 4, 5);
        });
        Edges.test(44, "Its lower number; 1 before.", () -> {
            Edges.due("before", new LastPage().lower(), 1);
            LastPage x = Checks.bookOf("p156");
            x.odds(1, 0);
            dueFraction("1 of 25", x, 1, 25);
            x.odds(32, 0);
            dueFraction("stays", x, 1, 25);
        });
    }

    private static void dueCounts(String what, LastPage x, int... want) {
        for (int k = 0; k < 7; k++) Edges.due(what + ", count(" + k + ")", x.count(k), want[k]);
    }

    private static void count() {
        Edges.test(45, "0 PAGES, 1 DEFINITIONS, 2 EXCEPTIONS (STRUCK ones, too), 3 POINTERS (INDEXES, too),", () -> {
            dueCounts("none", new LastPage(), 0, 0, 0, 0, 0, 0, 0);
            dueCounts("one of each", Checks.bookOf("p0e0o00d50s0i00"), 6, 1, 2, 2, 0, 1, 0);
            dueCounts("PAGES", Checks.bookOf("p0p0p0p0p0p0"), 6, 0, 0, 0, 0, 1, 0);
            dueCounts("DEFINITIONS", Checks.bookOf("d50d50d50d60d60d60"), 6, 6, 0, 0, 0, 1, 0);
            dueCounts("EXCEPTIONS", Checks.bookOf("e0s0e0s0e0s0"), 6, 0, 6, 0, 0, 1, 0);
            dueCounts("POINTERS", Checks.bookOf("o00i00o00i00o00i00"), 6, 0, 0, 6, 0, 1, 0);
        });
        Edges.test(45, "4 ROWS, 5 TEXTS that are there, 6 kept BOOKS.", () -> {
            LastPage x = Checks.bookOf("p0");
            for (int r = 0; r < 6; r++) x.row(r, 0);
            for (int t = 0; t < 4; t++) x.text(t, 0);
            for (int k = 0; k < 3; k++) x.keep(k);
            dueCounts("all", x, 1, 0, 0, 0, 6, 4, 3);
            x.row(0, 40);
            x.text(0, 80);
            x.keep(0);
            dueCounts("over others", x, 1, 0, 0, 0, 6, 4, 3);
            x.tear(5);
            x.tear(0);
            dueCounts("some torn", x, 1, 0, 0, 0, 4, 4, 3);
            x.rip();
            dueCounts("no PAGES", x, 0, 0, 0, 0, 4, 4, 3);
            x.book(1);
            dueCounts("kept ones gone", x, 0, 0, 0, 0, 4, 4, 0);
        });
        Edges.test(45, "BAD.", () -> {
            Edges.bounds(Edges::rich, "what", 0, 6, (x, what) -> x.count(what));
            Edges.bounds(Edges::bare, "what", 0, 6, (x, what) -> x.count(what));
        });
    }

    private static void finding() {
        Edges.test(46, "The latest FINDING (0 before any).", () -> {
            LastPage x = new LastPage();
            Edges.due("before any", x.finding(), 0);
            Edges.due("FULL and STATE are none", x.rip(), Edges.STATE);
            Edges.due("BAD is none", x.row(0, 41), Edges.BAD);
            for (int i = 0; i < 6; i++) x.add(1, 0);
            Edges.due("FULL is none", x.add(1, 0), Edges.FULL);
            x.row(0, 1);
            Edges.due("SPENT is none", x.deeds(0, 0), Edges.SPENT);
            Edges.due("NONE is none", x.free(0, 0), Edges.NONE);
            Edges.due("before any still", x.finding(), 0);
            Edges.dueFinding("NOTHING", x, x.tear(5), 1);
            Edges.dueFinding("BEYOND", x, x.at(0, 1), 2);
            Edges.dueFinding("UNLIKE", x, x.mark(0, 1), 3);
            x.row(0, 0);
            Edges.dueFinding("NOUGHT", x, x.mean(0), 4);
            Edges.dueFinding("SIZE", x, x.row(0, -1), 5);
            x.rip();
            x.row(9, 0);
            Edges.due("it stays", x.finding(), 5);
        });
    }

    private static void findings() {
        Edges.test(47, "How often a FINDING (1 .. 5) was answered.", () -> {
            LastPage x = new LastPage();
            for (int f = 1; f <= 5; f++) Edges.due("before", x.findings(f), 0);
            x.add(0, 0);
            x.row(0, 0);
            for (int k = 0; k < 5; k++) x.tear(5);
            for (int k = 0; k < 4; k++) x.at(0, 0);
            for (int k = 0; k < 3; k++) x.mark(0, 1);
            for (int k = 0; k < 2; k++) x.mean(0);
            x.text(0, -1);
            x.row(6, -1);
            for (int f = 1; f <= 5; f++) Edges.due("findings(" + f + ")", x.findings(f), 6 - f);
            LastPage y = new LastPage();
            for (int k = 0; k < 500; k++) y.tear(0);
            Edges.due("each time", y.findings(1), 500);
        });
        Edges.test(47, "BAD.", () -> {
            Edges.bounds(Edges::rich, "FINDING", 1, 5, (x, f) -> x.findings(f));
            Edges.bad(Edges::bare, "FINDING 0", x -> x.findings(0));
        });
        Edges.test(47, "FINDINGS:", () -> {
            LastPage x = new LastPage();
            Edges.rich(x);
            int[] before = new int[6];
            for (int f = 1; f <= 5; f++) before[f] = x.findings(f);
            Edges.dueFinding("a place that there is not", x, x.put(0, 80, 0), 2);
            Edges.dueFinding("fewer than none", x, x.copy(0, 0, 0, 0, -1), 5);
            Edges.dueFinding("too many", x, x.deeds(3, 4), 5);
            Edges.dueFinding("not as many as due", x, x.read(0), 5);
            int[] more = {0, 0, 1, 0, 0, 3};
            for (int f = 1; f <= 5; f++) Edges.due("findings(" + f + ")", x.findings(f), before[f] + more[f]);
        });
    }

    /** By numbers of any size, cut to a long at the end alone. */
    private static long digestOf(List<Integer> vs) {
        BigInteger h = BigInteger.valueOf(17);
        for (int v : vs) h = h.multiply(BigInteger.valueOf(31)).add(BigInteger.valueOf(v));
        return h.longValue();
    }

    private static void addAll(List<Integer> vs, int... more) {
        for (int v : more) vs.add(v);
    }

    private static void digest() {
        Edges.test(48, "h = 17; then h = 31 h + v for each v: count() 0 to 6;", () -> {
            List<Integer> vs = new ArrayList<>();
            addAll(vs, 0, 0, 0, 0, 0, 0, 0);
            addAll(vs, -1, -1, -1, -1, -1, -1, -1, -1, -1, -1, -1, -1, -1);
            Edges.due("a new one", new LastPage().digest(), digestOf(vs));
        });
        Edges.test(48, "of each PAGE page() 0 to 5; of each kept BOOK how many PAGES (-1: missing);", () -> {
            LastPage x = Checks.bookOf("o5106 d64");
            x.keep(2);
            x.swap(0, 1);
            List<Integer> vs = new ArrayList<>();
            addAll(vs, 2, 1, 0, 1, 0, 1, 1);
            addAll(vs, 2, 1, 65, 5, Edges.NONE, 0);
            addAll(vs, 3, 0, 64, Edges.NONE, 4, 1);
            addAll(vs, -1, -1, 2, -1, -1, -1, -1, -1, -1);
            addAll(vs, 9, 'o', '5', '1', '0', '6', ' ', 'd', '6', '4', -1, -1, -1);
            Edges.due("two PAGES", x.digest(), digestOf(vs));
            Edges.due("it changes nothing", x.digest(), digestOf(vs));
        });
        Edges.test(48, "of each ROW its size (-1: missing) and places, of each TEXT likewise.", () -> {
            LastPage x = new LastPage();
            List<Integer> vs = new ArrayList<>();
            addAll(vs, 0, 0, 0, 0, 2, 2, 0, -1, -1, -1, -1, 0, -1, -1, -1, 40);
            x.row(1, 0);
            x.row(5, 40);
            for (int i = 0; i < 40; i++) {
                int v = i % 2 == 0 ? Edges.LEAST : Edges.GREATEST;
                x.lay(5, i, v);
                vs.add(v);
            }
            addAll(vs, 0, -1, -1, 80);
            x.text(0, 0);
            x.text(3, 80);
            for (int i = 0; i < 80; i++) {
                x.put(3, i, i * 7);
                vs.add((int) (byte) (i * 7));
            }
            Edges.due("full ones, an empty one", x.digest(), digestOf(vs));
        });
    }
}
