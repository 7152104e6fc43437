/** Promises 12 to 20: pages, how they are changed, kept and gone on from. */
public final class BooksTest {
    private static final int BAD = LastPage.BAD, FULL = LastPage.FULL, STATE = LastPage.STATE, NONE = LastPage.NONE;
    private static final int NOTHING = 1, UNLIKE = 3, SIZE = 5;

    private static void duePage(LastPage x, int i, int... want) {
        for (int what = 0; what < want.length; what++) {
            Checks.due("12 page(" + i + ", " + what + ")", x.page(i, what), 1);
            Checks.due("12 page " + i + " tells " + what, x.asked(), want[what]);
        }
    }

    private static void page() {
        LastPage x = Checks.bookOf("p1056 e0 o5136 d64 s10123456 i30");
        duePage(x, 0, 0, 1, 97, NONE, NONE, 5);
        duePage(x, 1, 1, 0, 0, NONE, NONE, 4);
        duePage(x, 2, 2, 1, 72, 5, NONE, 3);
        duePage(x, 3, 3, 0, 64, NONE, 4, 2);
        duePage(x, 4, 4, 1, 127, NONE, NONE, 1);
        duePage(x, 5, 5, 0, 0, 3, NONE, 0);
        Checks.due("12 page 6", x.page(6, 0), BAD);
        Checks.due("12 page -1", x.page(-1, 0), BAD);
        Checks.due("12 what 6", x.page(0, 6), BAD);
        Checks.due("12 what -1", x.page(0, -1), BAD);
        Checks.due("12 as it was told", x.asked(), 0);
    }

    private static void mark() {
        LastPage x = Checks.bookOf("s0123 e06 d50 i00 o516 p156");
        Checks.due("13 a struck one weighs", x.mark(0, 1), 13);
        Checks.due("13 its last day", x.mark(0, 4), 7);
        Checks.due("13 an exception weighs", x.mark(1, 1), 11);
        Checks.due("13 pages with word 5", x.mark(2, 3), 1);
        Checks.due("13 an index on day 20", x.mark(3, 2), 0);
        Checks.due("13 its first day", x.mark(3, 5), 5);
        Checks.due("13 a pointer on day 20", x.mark(4, 2), 1);
        Checks.due("13 kind 0", x.mark(5, 0), BAD);
        Checks.due("13 kind 6", x.mark(5, 6), BAD);
        Checks.due("13 kind -1", x.mark(5, -1), BAD);
        Checks.due("13 page 6", x.mark(6, 1), BAD);
        Checks.due("13 page -1", x.mark(-1, 1), BAD);
        Checks.due("13 no finding yet", x.finding(), 0);
        boolean[][] is = {
            {true, false, false, true, false}, {true, false, false, false, false},
            {false, false, true, false, false}, {false, true, false, false, true},
            {false, true, false, false, false}, {false, false, false, false, false}};
        for (int i = 0; i < 6; i++) {
            for (int kind = 1; kind <= 5; kind++) {
                int was = x.findings(UNLIKE);
                int got = x.mark(i, kind);
                Checks.due("13 mark(" + i + ", " + kind + ")", x.findings(UNLIKE) - was, is[i][kind - 1] ? 0 : 1);
                if (!is[i][kind - 1]) Checks.dueFinding("13 unlike", x, got, UNLIKE);
            }
        }
        LastPage y = Checks.bookOf("i00 i41 d61 o106");
        Checks.due("13 an index in a ring", y.mark(0, 5), NONE);
        Checks.due("13 an index to none", y.mark(1, 5), NONE);
        Checks.due("13 pages with word 6, definitions aside", y.mark(2, 3), 1);
        Checks.due("13 a pointer to none in the end", y.mark(3, 2), 0);
        LastPage z = Checks.bookOf("p15 i21 s156 d50 d64 o01");
        Checks.due("13 pages with word 5", z.mark(3, 3), 2);
        Checks.due("13 pages with word 6", z.mark(4, 3), 1);
        Checks.due("13 an index of a day", z.mark(1, 5), 3);
        Checks.due("13 a pointer, once what it points to is read", z.mark(5, 2), 1);
        Checks.due("13 an index, from day 0 on", Checks.bookOf("i11 p0").mark(0, 5), 0);
    }

    private static void reverse() {
        LastPage x = Checks.bookOf("p1 d50 o01");
        Checks.due("14 reverse", x.reverse(0, 0), 1);
        Checks.due("14 reverse", x.reverse(0, 0), 0);
        Checks.due("14 reverse", x.reverse(2, 0), 1);
        x.page(0, 1);
        Checks.due("14 it is", x.asked(), 0);
        Checks.due("14 verdict 2", x.reverse(0, 2), BAD);
        Checks.due("14 verdict -1", x.reverse(0, -1), BAD);
        Checks.due("14 page 3", x.reverse(3, 1), BAD);
        Checks.due("14 BAD ahead of UNLIKE", x.reverse(1, 2), BAD);
        Checks.dueFinding("14 a definition", x, x.reverse(1, 1), UNLIKE);
    }

    private static void swap() {
        LastPage x = Checks.bookOf("p1 p0 e0");
        Checks.due("15 swap", x.swap(0, 1), 1);
        x.page(1, 5);
        Checks.due("15 the other one", x.asked(), 2);
        Checks.due("15 with itself", x.swap(2, 2), 0);
        Checks.due("15 page 3", x.swap(0, 3), BAD);
        Checks.due("15 page 3", x.swap(3, 0), BAD);
        Checks.due("15 page -1", x.swap(-1, 0), BAD);
        Checks.due("15 what binds", x.binds(1), 5);
    }

    private static void read() {
        LastPage x = new LastPage();
        Checks.due("16 BAD ahead of STATE", x.read(6), BAD);
        Checks.due("16 no pages ahead of NOTHING", x.read(0), STATE);
        Checks.lay(x, 0, "p0 p0 p0");
        x.book(0);
        Checks.due("16 row -1", x.read(-1), BAD);
        Checks.dueFinding("16 missing", x, x.read(0), NOTHING);
        Checks.layRow(x, 0, 1, 1);
        Checks.dueFinding("16 SIZE ahead of UNLIKE", x, x.read(0), SIZE);
        Checks.layRow(x, 0, 0, 1, 2, 3);
        Checks.dueFinding("16 too many", x, x.read(0), SIZE);
        Checks.layRow(x, 0, 0, 1, 1);
        Checks.dueFinding("16 one twice", x, x.read(0), UNLIKE);
        Checks.layRow(x, 0, 3, 1, 2);
        Checks.dueFinding("16 none such ahead", x, x.read(0), UNLIKE);
        Checks.layRow(x, 0, 0, 1, 3);
        Checks.dueFinding("16 none such", x, x.read(0), UNLIKE);
        Checks.layRow(x, 0, 0, -1, 1);
        Checks.dueFinding("16 below 0", x, x.read(0), UNLIKE);
        Checks.due("16 refused: as it was", x.binds(0), 4);
        Checks.layRow(x, 0, 1, 2, 0);
        Checks.due("16 read", x.read(0), 1);
        Checks.due("16 day 0", x.binds(0), 2);
        Checks.due("16 day 1", x.binds(1), 6);
        Checks.due("16 day 2", x.binds(2), 7);
    }

    private static void add() {
        LastPage x = new LastPage();
        Checks.due("17 the first one", x.add(1, 127), 0);
        duePage(x, 0, 0, 1, 127, NONE, NONE, 0);
        Checks.due("17 the next one", x.add(0, 0), 1);
        duePage(x, 1, 0, 0, 0, NONE, NONE, 1);
        Checks.due("17 verdict 2", x.add(2, 0), BAD);
        Checks.due("17 verdict -1", x.add(-1, 0), BAD);
        Checks.due("17 words", x.add(0, 128), BAD);
        Checks.due("17 words", x.add(0, -1), BAD);
        for (int i = 2; i < 6; i++) Checks.due("17 more", x.add(1, i), i);
        Checks.due("17 full", x.add(1, 1), FULL);
        Checks.due("17 BAD ahead of FULL", x.add(1, 128), BAD);
        Checks.due("17 pages", x.count(0), 6);
        LastPage y = Checks.bookOf("p1 p0");
        Checks.due("17 behind", y.add(1, 1), 2);
        y.page(2, 5);
        Checks.due("17 behind all others", y.asked(), 2);
    }

    private static void rip() {
        LastPage x = new LastPage();
        Checks.due("18 no pages", x.rip(), STATE);
        Checks.lay(x, 0, "p1 i21 p0");
        x.book(0);
        x.swap(0, 2);
        x.swap(1, 2);
        Checks.due("18 rip", x.rip(), 2);
        x.page(0, 5);
        Checks.due("18 read ahead of it: stays", x.asked(), 0);
        x.page(1, 5);
        Checks.due("18 read behind it: a day earlier", x.asked(), 1);
        x.page(1, 3);
        Checks.due("18 still points there", x.asked(), 2);
        Checks.due("18 to none", x.binds(20), 1);
        Checks.due("18 a page with that number", x.add(0, 0), 2);
        Checks.due("18 to that one", x.binds(20), 7);
        Checks.due("18 rip", x.rip(), 2);
        Checks.due("18 rip", x.rip(), 1);
        Checks.due("18 rip", x.rip(), 0);
        Checks.due("18 no pages left", x.rip(), STATE);
        LastPage z = Checks.bookOf("p0 p1 e1");
        z.rip();
        Checks.due("18 judged by what is left", z.judge(0, 0, 1), 0);
        LastPage y = Checks.bookOf("p1 p1 p1");
        Checks.due("18 the one of day 0", y.rip(), 2);
        y.page(0, 5);
        Checks.due("18 both a day earlier", y.asked(), 1);
        y.page(1, 5);
        Checks.due("18 both a day earlier", y.asked(), 0);
    }

    private static void keepAndOn() {
        LastPage x = new LastPage();
        Checks.due("19 place 3", x.keep(3), BAD);
        Checks.due("19 place -1", x.keep(-1), BAD);
        Checks.due("19 no pages", x.keep(0), STATE);
        Checks.due("20 place 3", x.on(3), BAD);
        Checks.due("20 place -1", x.on(-1), BAD);
        Checks.dueFinding("20 missing", x, x.on(0), NOTHING);
        Checks.lay(x, 0, "p1 e0 d53");
        x.book(0);
        Checks.due("19 keep", x.keep(2), 3);
        Checks.due("19 kept", x.count(6), 1);
        x.reverse(0, 0);
        x.swap(0, 2);
        x.rip();
        Checks.due("19 keep another", x.keep(0), 2);
        Checks.due("19 kept", x.count(6), 2);
        Checks.due("20 on", x.on(2), 3);
        duePage(x, 0, 0, 1, 0, NONE, NONE, 2);
        duePage(x, 2, 3, 0, 32, NONE, 3, 0);
        x.reverse(0, 0);
        Checks.due("20 the kept one stays as it was", x.on(2), 3);
        duePage(x, 0, 0, 1, 0, NONE, NONE, 2);
        Checks.due("20 still kept", x.count(6), 2);
        Checks.due("20 on", x.on(0), 2);
        duePage(x, 0, 0, 0, 0, NONE, NONE, 0);
        Checks.due("20 judged by what weighs most", x.judge(0, 0, 1), 1);
    }

    public static void main(String[] args) {
        page();
        mark();
        reverse();
        swap();
        read();
        add();
        rip();
        keepAndOn();
        Checks.end("BooksTest");
    }
}
