/** Promises 21 to 24: what binds, what is meant. */
public final class BindsTest {
    private static final int BAD = LastPage.BAD;

    private static void dueBinds(String signs, int... want) {
        LastPage x = Checks.bookOf(signs);
        for (int day = 0; day < want.length; day++) {
            Checks.due("21 binds(" + day + ") of " + signs, x.binds(day), want[day]);
        }
        for (int day = want.length; day <= 20; day++) {
            Checks.due("21 binds(" + day + ") of " + signs, x.binds(day), want[want.length - 1]);
        }
    }

    private static void binds() {
        dueBinds("", 0);
        dueBinds("p0 e1 d50", 4, 6, 7);
        dueBinds("s1", 1, 1, 1, 0);
        dueBinds("s1 p0 p0 p0 p0 p0", 32, 48, 56, 60, 62, 63, 63, 63, 62);
        dueBinds("o11 p0", 2, 3);
        dueBinds("p0 o01", 0, 3);
        dueBinds("i11 p0", 3);
        dueBinds("p0 i01", 0, 3);
        dueBinds("o11 s0", 2, 3, 3, 0);
        dueBinds("i11 s0", 3, 3, 3, 0);
        dueBinds("i11 d50", 3);
        dueBinds("o11 o21 i31 p0", 12, 12, 14, 15);
        dueBinds("p0 i01 o11", 0, 0, 7);
        dueBinds("o01", 0);
        dueBinds("i01", 0);
        dueBinds("o11 i01 p0", 4);
        dueBinds("o21 p0 o51", 0, 2);
        LastPage x = Checks.bookOf("p0");
        Checks.due("21 day 21", x.binds(21), BAD);
        Checks.due("21 day -1", x.binds(-1), BAD);
    }

    private static void means() {
        LastPage x = Checks.bookOf("d50 d64 p1 d52");
        int[] fives = {4, 4, 4, 1, 1};
        int[] sixes = {31, 31, 16, 16, 16};
        int[] ways = {5, 5, 1, 1, 1};
        for (int day = 0; day < 5; day++) {
            Checks.due("22 means(5, " + day + ")", x.means(5, day), fives[day]);
            Checks.due("22 means(6, " + day + ")", x.means(6, day), sixes[day]);
            Checks.due("23 meanings(" + day + ")", x.meanings(day), ways[day]);
        }
        x.swap(0, 3);
        Checks.due("22 what was read last", x.means(5, 20), 4);
        Checks.due("22 word 4", x.means(4, 0), BAD);
        Checks.due("22 word 7", x.means(7, 0), BAD);
        Checks.due("22 day 21", x.means(5, 21), BAD);
        Checks.due("22 day -1", x.means(6, -1), BAD);
        Checks.due("23 day 21", x.meanings(21), BAD);
        Checks.due("23 day -1", x.meanings(-1), BAD);
        LastPage w = Checks.bookOf("d50 d51 d52");
        Checks.layRow(w, 0, 1, 0, 2);
        w.read(0);
        int[] three = {2, 1, 4};
        for (int day = 0; day < 3; day++) Checks.due("22 of three the last", w.means(5, day), three[day]);
        LastPage y = new LastPage();
        Checks.due("22 without pages", y.means(6, 20), 31);
        Checks.due("23 without pages", y.meanings(0), 25);
        LastPage z = Checks.bookOf("i11 p05");
        Checks.due("23 none defined", z.meanings(20), 25);
    }

    private static void dueNever(String signs, int want, int ring) {
        LastPage x = Checks.bookOf(signs);
        Checks.due("24 never() of " + signs, x.never(), want);
        Checks.due("24 in a ring of " + signs, x.asked(), ring);
    }

    private static void never() {
        dueNever("", 0, 0);
        dueNever("p0 e0 d50 s0 i01 o11", 0, 0);
        dueNever("o01 p0", 1, 1);
        dueNever("o11 i21 o01 p1", 7, 7);
        dueNever("o51 p0", 1, 0);
        dueNever("i11 o51", 3, 0);
        dueNever("o31 p0 p0 s0", 1, 0);
        dueNever("i31 p0 p0 s0", 0, 0);
        // Who points to one of a ring from without is not in it: it comes not back to itself.
        dueNever("o11 o11", 3, 2);
        dueNever("i21 o01 o31 o21", 15, 12);
    }

    public static void main(String[] args) {
        binds();
        means();
        never();
        Checks.end("BindsTest");
    }
}
