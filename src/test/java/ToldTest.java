import java.util.ArrayList;
import java.util.List;

/** Promises 42 to 48: what is told. */
public final class ToldTest {
    private static final int BAD = LastPage.BAD, NONE = LastPage.NONE;

    private static void asked() {
        LastPage x = new LastPage();
        Checks.due("42 before", x.asked(), 0);
        Checks.lay(x, 0, "p15 d50 i21");
        x.book(0);
        Checks.layRow(x, 0, 4, 6);
        Checks.due("42 lay", x.asked(), 0);
        x.mean(0);
        Checks.due("42 mean", x.asked(), 5);
        x.at(0, 1);
        Checks.due("42 at", x.asked(), 6);
        x.page(1, 2);
        Checks.due("42 page", x.asked(), 32);
        x.page(1, 3);
        Checks.due("42 page tells NONE", x.asked(), NONE);
        x.never();
        Checks.due("42 never", x.asked(), 4);
        x.verdict(1, 2);
        Checks.due("42 verdict", x.asked(), 5);
        x.waits(2);
        Checks.due("42 waits", x.asked(), 16);
        x.most();
        Checks.due("42 most", x.asked(), 1);
        x.row(1, 0);
        x.meant(1);
        Checks.due("42 meant", x.asked(), 31);
        x.front();
        Checks.due("42 front", x.asked(), 0);
        x.rip();
        x.rip();
        Checks.due("42 it waits", x.verdict(3, 0), NONE);
        Checks.due("42 verdict, also by NONE", x.asked(), 10);
    }

    /** Calls that tell nothing by asked(), or are refused. */
    private static void askedStays() {
        LastPage x = Checks.bookOf("p15 d50");
        Checks.layRow(x, 0, 1, 2);
        x.at(0, 1);
        int[] calls = {
            x.lay(0, 9, 9), x.at(0, 9), x.mean(5), x.page(9, 0), x.verdict(32, 0), x.waits(21), x.meant(0), x.meant(9),
            x.row(1, 1), x.copy(0, 0, 1, 0, 1), x.put(0, 0, 'p'), x.fault(0), x.mark(1, 3), x.reverse(0, 1),
            x.swap(0, 1), x.read(0), x.keep(0), x.on(0), x.binds(1), x.means(5, 1), x.meanings(1), x.judge(1, 0, 1),
            x.odds(1, 1), x.all(), x.free(1, 1), x.deeds(0, 2), x.order(0, 2), x.flips(1), x.flip(1, 0), x.matter(0, 1),
            x.best(2), x.kinds(0, 1, 1, 1), x.lots(1, 1), x.count(0), x.finding(), x.findings(1), x.rip(), x.add(1, 1),
            x.book(0), x.tear(1), x.text(1, 1)};
        Checks.due("42 calls", calls.length, 41);
        x.digest();
        Checks.due("42 stays", x.asked(), 2);
    }

    private static void fractions() {
        LastPage x = Checks.bookOf("p15");
        Checks.due("43 before", x.upper(), 0);
        Checks.due("44 before", x.lower(), 1);
        x.odds(3, 0);
        Checks.due("43 upper", x.upper(), 2);
        Checks.due("44 lower", x.lower(), 5);
        x.odds(32, 0);
        x.mark(0, 3);
        x.verdict(31, 0);
        Checks.due("43 stays", x.upper(), 2);
        Checks.due("44 stays", x.lower(), 5);
        x.odds(31, 0);
        Checks.due("43 whole", x.upper(), 1);
        Checks.due("44 whole", x.lower(), 1);
        x.odds(0, 0);
        Checks.due("43 none", x.upper(), 0);
        Checks.due("44 none", x.lower(), 1);
    }

    private static void count() {
        LastPage x = Checks.bookOf("p1 e0 s1 d50 o01 i11");
        int[] want = {6, 1, 2, 2, 0, 1, 0};
        for (int what = 0; what < 7; what++) Checks.due("45 count(" + what + ")", x.count(what), want[what]);
        x.row(0, 0);
        x.row(5, 3);
        x.text(3, 0);
        x.keep(0);
        x.keep(1);
        x.keep(1);
        int[] then = {6, 1, 2, 2, 2, 2, 2};
        for (int what = 0; what < 7; what++) Checks.due("45 count(" + what + ")", x.count(what), then[what]);
        x.tear(0);
        Checks.due("45 rows", x.count(4), 1);
        x.rip();
        Checks.due("45 pointers", x.count(3), 1);
        Checks.due("45 what 7", x.count(7), BAD);
        Checks.due("45 what -1", x.count(-1), BAD);
    }

    private static void findings() {
        LastPage x = new LastPage();
        Checks.due("46 before", x.finding(), 0);
        for (int f = 1; f <= 5; f++) Checks.due("47 before", x.findings(f), 0);
        x.row(9, 0);
        x.rip();
        Checks.due("46 no finding by BAD, STATE", x.finding(), 0);
        x.tear(0);
        x.tear(1);
        x.row(0, 0);
        x.mean(0);
        Checks.due("46 NOUGHT", x.finding(), 4);
        x.at(0, 0);
        Checks.due("46 BEYOND", x.finding(), 2);
        x.row(0, -3);
        x.text(0, -3);
        x.copy(0, 0, 0, 0, -1);
        Checks.due("46 SIZE", x.finding(), 5);
        x.add(0, 0);
        x.mark(0, 1);
        Checks.due("46 UNLIKE", x.finding(), 3);
        x.row(0, 1);
        Checks.due("46 the latest stays", x.finding(), 3);
        int[] want = {2, 1, 1, 1, 3};
        for (int f = 1; f <= 5; f++) Checks.due("47 findings(" + f + ")", x.findings(f), want[f - 1]);
        Checks.due("47 finding 0", x.findings(0), BAD);
        Checks.due("47 finding 6", x.findings(6), BAD);
        Checks.due("47 finding -1", x.findings(-1), BAD);
    }

    private static long digestOf(List<Integer> vs) {
        long h = 17;
        for (int v : vs) h = 31 * h + v;
        return h;
    }

    private static List<Integer> list(int... vs) {
        List<Integer> all = new ArrayList<>();
        for (int v : vs) all.add(v);
        return all;
    }

    private static void digest() {
        LastPage x = new LastPage();
        List<Integer> bare = list(0, 0, 0, 0, 0, 0, 0, -1, -1, -1, -1, -1, -1, -1, -1, -1, -1, -1, -1, -1);
        Checks.due("48 of a new one", x.digest(), digestOf(bare));
        Checks.lay(x, 1, "o316 d64 ");
        x.book(1);
        x.put(1, 8, 255);
        x.keep(2);
        x.rip();
        x.rip();
        x.add(1, 127);
        x.keep(0);
        Checks.layRow(x, 0, 7, -8);
        x.row(5, 0);
        x.at(0, 0);
        x.tear(9);
        List<Integer> want = list(1, 0, 0, 0, 2, 1, 2);
        want.addAll(list(0, 1, 127, NONE, NONE, 0));
        want.addAll(list(1, -1, 2));
        want.addAll(list(2, 7, -8, -1, -1, -1, -1, 0));
        want.addAll(list(-1, 9, 'o', '3', '1', '6', 32, 'd', '6', '4', -1, -1, -1));
        Checks.due("48 digest", x.digest(), digestOf(want));
        x.on(2);
        List<Integer> then = list(2, 1, 0, 1, 2, 1, 2);
        then.addAll(list(2, 1, 64, 3, NONE, 1, 3, 0, 64, NONE, 4, 0));
        then.addAll(want.subList(13, want.size()));
        Checks.due("48 digest of a book", x.digest(), digestOf(then));
        Checks.due("48 changes nothing", x.digest(), digestOf(then));
        Checks.due("48 not told by asked()", x.asked(), 7);
    }

    public static void main(String[] args) {
        asked();
        askedStays();
        fractions();
        count();
        findings();
        digest();
        Checks.end("ToldTest");
    }
}
