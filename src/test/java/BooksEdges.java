/** Edges of the promises 12 to 20: pages, how they are changed, kept and gone on from. */
final class BooksEdges {
    private static final int LEAST = Edges.LEAST, GREATEST = Edges.GREATEST;

    private BooksEdges() {
    }

    static void all() {
        page();
        pageRefused();
        mark();
        markOfPointers();
        markRefused();
        reverse();
        swap();
        read();
        readRefused();
        add();
        rip();
        keep();
        on();
    }

    private static void duePage(LastPage x, int i, int... want) {
        for (int what = 0; what < want.length; what++) {
            Edges.dueTold("page(" + i + ", " + what + ")", x, x.page(i, what), 1, want[what]);
        }
    }

    private static void dueDays(String what, LastPage x, int... days) {
        for (int i = 0; i < days.length; i++) Edges.dueTold(what + ", PAGE " + i, x, x.page(i, 5), 1, days[i]);
        Edges.due(what + ", its end", x.page(days.length, 5), Edges.BAD);
    }

    private static void page() {
        Edges.test(12, "Of a PAGE: 0 the KIND, 1 the VERDICT", () -> {
            LastPage x = Checks.bookOf("p1 e0 o01 d50 s0 i01");
            int[] verdicts = {1, 0, 1, 0, 0, 1};
            for (int i = 0; i < 6; i++) duePage(x, i, i, verdicts[i]);
        });
        Edges.test(12, "(of a DEFINITION 0)", () -> duePage(Checks.bookOf("d64"), 0, 3, 0));
        Edges.test(12, ", 2 its WORDS (bits; of a DEFINITION the WORD)", () -> {
            LastPage x = Checks.bookOf("p0 p00 p06 p00123456 d50 d60");
            int[] words = {0, 1, 64, 127, 32, 64};
            for (int i = 0; i < 6; i++) Edges.dueTold("WORDS of " + i, x, x.page(i, 2), 1, words[i]);
        });
        Edges.test(12, ", 3 the PAGE to which it points (NONE: it does not)", () -> {
            LastPage x = Checks.bookOf("o00 o50 i00 i50 p0 d50");
            int[] to = {0, 5, 0, 5, Edges.NONE, Edges.NONE};
            for (int i = 0; i < 6; i++) Edges.dueTold("points of " + i, x, x.page(i, 3), 1, to[i]);
            x.rip();
            Edges.dueTold("to one that is none any more", x, x.page(1, 3), 1, 5);
        });
        Edges.test(12, ", 4 the FACT that it means (NONE)", () -> {
            LastPage x = Checks.bookOf("d50 d54 p0 e0 o00 i00");
            int[] facts = {0, 4, Edges.NONE, Edges.NONE, Edges.NONE, Edges.NONE};
            for (int i = 0; i < 6; i++) Edges.dueTold("FACT of " + i, x, x.page(i, 4), 1, facts[i]);
        });
        Edges.test(12, ", 5 the DAY on which it is read, told by asked(): 1.", () -> {
            dueDays("one alone", Checks.bookOf("p0"), 0);
            dueDays("six", Checks.bookOf("p0p0p0p0p0p0"), 5, 4, 3, 2, 1, 0);
        });
    }

    private static void pageRefused() {
        Edges.test(12, "BAD.", () -> {
            Edges.bounds(Edges::rich, "PAGE", 0, 5, (x, i) -> x.page(i, 0));
            Edges.bounds(Edges::rich, "what", 0, 5, (x, what) -> x.page(0, what));
            Edges.bounds(x -> x.add(1, 1), "the one PAGE", 0, 0, (x, i) -> x.page(i, 0));
            Edges.bad(Edges::torn, "no PAGES", x -> x.page(0, 0));
            Edges.bad(Edges::bare, "no PAGES", x -> x.page(0, 5));
        });
    }

    private static void dueMark(String signs, int i, int kind, int want) {
        Edges.due("mark(" + i + ", " + kind + ") of " + signs, Checks.bookOf(signs).mark(i, kind), want);
    }

    private static void mark() {
        Edges.test(13, "What a PAGE that IS of a KIND tells: an EXCEPTION (STRUCK, too) how much it weighs,", () -> {
            dueMark("e0", 0, 1, 10);
            dueMark("e06", 0, 1, 11);
            dueMark("e00123456", 0, 1, 17);
            dueMark("s1", 0, 1, 10);
            dueMark("s10123456", 0, 1, 17);
        });
        Edges.test(13, "a DEFINITION how many PAGES have that WORD (DEFINITIONS aside),", () -> {
            dueMark("d50", 0, 3, 0);
            dueMark("p05 d50", 1, 3, 1);
            dueMark("d50 p05", 0, 3, 1);
            dueMark("d60", 0, 3, 0);
            dueMark("d50 d51 d52 d53 d54 d50", 0, 3, 0);
            dueMark("d50 p15 e056 s05 o015 i0156", 0, 3, 5);
            dueMark("d60 p15 e056 s05 o015 i0156", 0, 3, 2);
            dueMark("p0012345 d60", 1, 3, 0);
            dueMark("p0012346 d50", 1, 3, 0);
        });
        Edges.test(13, "a STRUCK one the last DAY on which it BINDS,", () -> {
            dueMark("s0", 0, 4, 2);
            dueMark("s0p0p0p0p0p0", 0, 4, 7);
            LastPage x = Checks.bookOf("s0p0p0p0p0p0");
            for (int day = 0; day <= 20; day++) {
                Edges.due("binds(" + day + ")", x.binds(day) & 1, day >= 5 && day <= 7 ? 1 : 0);
            }
            x.swap(0, 5);
            Edges.due("read on DAY 0 then", x.mark(0, 4), 2);
        });
    }

    private static void markOfPointers() {
        Edges.test(13, "a POINTER (INDEX, too) whether it BINDS on DAY 20 (1, 0),", () -> {
            dueMark("o10 p0", 0, 2, 1);
            dueMark("p0 o00", 1, 2, 1);
            dueMark("i10 p0", 0, 2, 1);
            dueMark("o10 d50", 0, 2, 1);
            dueMark("o10 s0", 0, 2, 0);
            dueMark("i10 s0", 0, 2, 0);
            dueMark("o00", 0, 2, 0);
            dueMark("i00", 0, 2, 0);
            dueMark("o10", 0, 2, 0);
            dueMark("i50", 0, 2, 0);
            dueMark("o10 o20 o30 o40 o50 p0", 0, 2, 1);
            dueMark("o10 o20 o30 o40 o50 o00", 0, 2, 0);
            LastPage x = Checks.bookOf("o10");
            x.add(0, 0);
            Edges.due("to one that comes later", x.mark(0, 2), 1);
        });
        Edges.test(13, "an INDEX the first DAY on which it BINDS (0 .. 20; NONE).", () -> {
            dueMark("i10 p0", 0, 5, 0);
            dueMark("p0 i00 p0 p0 p0 p0", 1, 5, 5);
            dueMark("i10 i20 i30 i40 i50 p0", 0, 5, 0);
            dueMark("s0 i00 p0", 1, 5, 2);
            dueMark("i10 o20 p0", 0, 5, 1);
            dueMark("i00", 0, 5, Edges.NONE);
            dueMark("i10", 0, 5, Edges.NONE);
            dueMark("i10 i00", 0, 5, Edges.NONE);
            // The pointer is read on the last DAY on which the STRUCK one BINDS, or a DAY too late.
            dueMark("i10 o30 p0 s0", 0, 5, 2);
            dueMark("i10 o40 p0 p0 s0", 0, 5, Edges.NONE);
        });
    }

    private static void markRefused() {
        Edges.test(13, "BAD:", () -> {
            Edges.bounds(Edges::rich, "PAGE", 0, 5, (x, i) -> x.mark(i, 1));
            Edges.bounds(Edges::rich, "KIND", 1, 5, (x, kind) -> x.mark(0, kind));
            Edges.bad(Edges::torn, "no PAGES", x -> x.mark(0, 1));
        });
        Edges.test(13, "also KIND 0;", () -> {
            for (int i = 0; i < 6; i++) {
                int page = i;
                Edges.bad(Edges::rich, "PAGE " + i, x -> x.mark(page, 0));
            }
        });
        Edges.test(13, "UNLIKE.", () -> {
            int[][] is = {{}, {1}, {2}, {3}, {1, 4}, {2, 5}};
            for (int i = 0; i < 6; i++) {
                for (int kind = 1; kind <= 5; kind++) {
                    int page = i;
                    int other = kind;
                    boolean fits = java.util.Arrays.binarySearch(is[i], kind) >= 0;
                    LastPage y = Checks.bookOf(Edges.RICH_BOOK);
                    y.mark(page, other);
                    Edges.due("PAGE " + i + " is of KIND " + kind, y.findings(Edges.UNLIKE), fits ? 0 : 1);
                    if (fits) continue;
                    Edges.found(Edges::rich, "PAGE " + i + ", KIND " + kind, x -> x.mark(page, other), Edges.UNLIKE);
                }
            }
        });
        Edges.test(13, "3 UNLIKE (a PAGE of another KIND; a number that is none)", () ->
            Edges.bad(Edges::rich, "BAD ahead of UNLIKE", x -> x.mark(6, 1)));
    }

    private static void reverse() {
        Edges.test(14, "The VERDICT of a PAGE is v (0, 1): what it was.", () -> {
            LastPage x = Checks.bookOf("p1 e0 o01 p0 s0 i01");
            int[] was = {1, 0, 1, 0, 0, 1};
            for (int i = 0; i < 6; i++) {
                Edges.due("reverse(" + i + ", ..)", x.reverse(i, 1 - was[i]), was[i]);
                Edges.dueTold("it is", x, x.page(i, 1), 1, 1 - was[i]);
                Edges.due("to what it is", x.reverse(i, 1 - was[i]), 1 - was[i]);
                Edges.due("back", x.reverse(i, was[i]), 1 - was[i]);
            }
        });
        Edges.test(14, "BAD;", () -> {
            Edges.bounds(Edges::rich, "PAGE", 0, 5, (x, i) -> x.reverse(i, 1));
            Edges.bounds(Edges::rich, "VERDICT", 0, 1, (x, v) -> x.reverse(0, v));
            Edges.bad(Edges::rich, "BAD ahead of UNLIKE", x -> x.reverse(3, 2));
            Edges.bad(Edges::torn, "no PAGES", x -> x.reverse(0, 0));
        });
        Edges.test(14, "UNLIKE: a DEFINITION.", () -> {
            Edges.found(Edges::rich, "to 1", x -> x.reverse(3, 1), Edges.UNLIKE);
            Edges.found(Edges::rich, "to 0, which it is", x -> x.reverse(3, 0), Edges.UNLIKE);
        });
    }

    private static void swap() {
        Edges.test(15, "Two PAGES change the DAYS on which they are read: the DAY of the first one then.", () -> {
            LastPage x = Checks.bookOf("p0p0p0p0p0p0");
            Edges.due("the ends", x.swap(0, 5), 0);
            dueDays("the ends", x, 0, 4, 3, 2, 1, 5);
            Edges.due("back, the other first", x.swap(5, 0), 0);
            dueDays("back", x, 5, 4, 3, 2, 1, 0);
            Edges.due("with itself", x.swap(2, 2), 3);
            dueDays("with itself", x, 5, 4, 3, 2, 1, 0);
            Edges.due("one alone", Checks.bookOf("p0").swap(0, 0), 0);
        });
        Edges.test(15, "BAD.", () -> {
            Edges.bounds(Edges::rich, "the first", 0, 5, (x, i) -> x.swap(i, 1));
            Edges.bounds(Edges::rich, "the other", 0, 5, (x, j) -> x.swap(1, j));
            Edges.bad(Edges::torn, "no PAGES", x -> x.swap(0, 0));
        });
    }

    private static void dueRead(String signs, int[] row, int... days) {
        LastPage x = Checks.bookOf(signs);
        Checks.layRow(x, 5, row);
        Edges.due("read(5) for " + signs, x.read(5), 1);
        dueDays("days of " + signs, x, days);
        Edges.dueRow("the ROW stays", x, 5, row);
    }

    private static void read() {
        Edges.test(16, "PAGES are read by a ROW (all, each once; the first of it on DAY 0): 1.", () -> {
            dueRead("p0", new int[] {0}, 0);
            dueRead("p0p0", new int[] {0, 1}, 0, 1);
            dueRead("p0p0p0", new int[] {1, 2, 0}, 2, 0, 1);
            dueRead("p0p0p0p0p0p0", new int[] {5, 0, 4, 1, 3, 2}, 1, 3, 5, 4, 2, 0);
        });
        Edges.test(16, "DAYS are 0, 1, ..: on each one PAGE is read, the last one on DAY 0, and so on, till all are (another order may be told).", () -> {
            LastPage x = Checks.bookOf("p0p0p0p0p0p0");
            for (int day = 0; day <= 20; day++) {
                Edges.due("binds(" + day + ")", Integer.bitCount(x.binds(day)), Math.min(day + 1, 6));
            }
            Edges.due("the last one", x.binds(0), 32);
            Checks.layRow(x, 0, 2, 3, 4, 5, 0, 1);
            x.read(0);
            Edges.due("by another order", x.binds(0), 4);
            Edges.due("by another order", x.binds(4), 61);
            Edges.due("by another order", x.binds(5), 63);
        });
    }

    private static void refusedRow(String what, int finding, int... row) {
        Edges.found(x -> {
            Edges.rich(x);
            Checks.layRow(x, 0, row);
        }, what, x -> x.read(0), finding);
    }

    private static void readRefused() {
        Edges.test(16, "BAD;", () -> Edges.bounds(Edges::rich, "ROW", 0, 5, (x, r) -> x.read(r)));
        Edges.test(16, "STATE: no PAGES;", () -> {
            Edges.refused(Edges::torn, "an empty ROW", x -> x.read(2), Edges.STATE, 0);
            Edges.refused(Edges::bare, "a missing ROW", x -> x.read(0), Edges.STATE, 0);
        });
        Edges.test(16, "NOTHING;", () -> Edges.found(Edges::rich, "a missing ROW", x -> x.read(5), Edges.NOTHING));
        Edges.test(16, "SIZE: not as many;", () -> {
            refusedRow("none", Edges.SIZE);
            refusedRow("one fewer", Edges.SIZE, 0, 1, 2, 3, 4);
            refusedRow("one more", Edges.SIZE, 0, 1, 2, 3, 4, 5, 6);
            Edges.found(Edges::rich, "40", x -> x.read(3), Edges.SIZE);
        });
        Edges.test(16, "UNLIKE: not each once.", () -> {
            refusedRow("the first twice", Edges.UNLIKE, 0, 0, 1, 2, 3, 4);
            refusedRow("the last twice", Edges.UNLIKE, 5, 1, 2, 3, 4, 5);
            refusedRow("all alike", Edges.UNLIKE, 1, 1, 1, 1, 1, 1);
            for (int none : new int[] {LEAST, -1, 6, 32, 64, GREATEST}) {
                refusedRow(none + " first", Edges.UNLIKE, none, 1, 2, 3, 4, 5);
                refusedRow(none + " last", Edges.UNLIKE, 0, 1, 2, 3, 4, none);
            }
        });
        Edges.test(16, "(In this order.)", () -> {
            Edges.bad(Edges::torn, "BAD ahead of STATE", x -> x.read(6));
            Edges.refused(Edges::torn, "STATE ahead of NOTHING", x -> x.read(5), Edges.STATE, 0);
            Edges.refused(Edges::torn, "STATE ahead of SIZE", x -> x.read(3), Edges.STATE, 0);
            refusedRow("SIZE ahead of UNLIKE", Edges.SIZE, 0, 0, 0, 0, 0);
            refusedRow("SIZE ahead of UNLIKE", Edges.SIZE, -1, 6, 7, 8, 9, 9, 9);
        });
    }

    private static void add() {
        Edges.test(17, "A PAGE more, of KIND 0, with a VERDICT, WORDS (bits),", () -> {
            LastPage x = new LastPage();
            Edges.due("the first", x.add(0, 0), 0);
            duePage(x, 0, 0, 0, 0, Edges.NONE, Edges.NONE, 0);
            Edges.due("the next", x.add(1, 127), 1);
            duePage(x, 1, 0, 1, 127, Edges.NONE, Edges.NONE, 1);
            LastPage y = Checks.bookOf("d50 o11");
            y.rip();
            y.rip();
            y.add(1, 2);
            y.add(1, 4);
            duePage(y, 0, 0, 1, 2, Edges.NONE, Edges.NONE, 0);
            duePage(y, 1, 0, 1, 4, Edges.NONE, Edges.NONE, 1);
        });
        Edges.test(17, "read on the DAY behind all others: its number.", () -> {
            LastPage x = Checks.bookOf("p0p0p0p0p0");
            Edges.due("the sixth", x.add(1, 3), 5);
            dueDays("the sixth", x, 4, 3, 2, 1, 0, 5);
            LastPage y = Checks.bookOf("p0p0");
            y.swap(0, 1);
            Edges.due("by another order", y.add(1, 3), 2);
            dueDays("by another order", y, 0, 1, 2);
        });
        Edges.test(17, "BAD;", () -> {
            Edges.bounds(Edges::bare, "VERDICT", 0, 1, (x, v) -> x.add(v, 1));
            Edges.bounds(Edges::bare, "WORDS", 0, 127, (x, words) -> x.add(1, words));
            Edges.bad(Edges::rich, "BAD ahead of FULL", x -> x.add(2, 1));
            Edges.bad(Edges::rich, "BAD ahead of FULL", x -> x.add(1, 128));
        });
        Edges.test(17, "FULL: 6.", () -> {
            LastPage y = new LastPage();
            for (int i = 0; i < 6; i++) Edges.due("PAGE " + i, y.add(1, i), i);
            Edges.due("a seventh", y.add(1, 6), Edges.FULL);
            Edges.refused(Edges::rich, "a seventh", x -> x.add(0, 0), Edges.FULL, 0);
        });
    }

    private static void dueRipped(int[] row, int... days) {
        LastPage x = Checks.bookOf("p0".repeat(row.length));
        Checks.layRow(x, 0, row);
        x.read(0);
        Edges.due("rip() of " + row.length, x.rip(), row.length - 1);
        dueDays("read by " + java.util.Arrays.toString(row), x, days);
    }

    private static void rip() {
        Edges.test(18, "The last PAGE is torn out", () -> {
            LastPage x = Checks.bookOf("p0 p1 e0 d50 o01 s1");
            for (int left = 5; left >= 0; left--) {
                Edges.due("rip()", x.rip(), left);
                Edges.due("count(0)", x.count(0), left);
                Edges.due("the last of them", x.page(left, 0), Edges.BAD);
                if (left > 0) Edges.due("those ahead stay", x.page(left - 1, 0), 1);
            }
            Edges.due("one that was not the last to be read", x.rip(), Edges.STATE);
        });
        Edges.test(18, "(those read later are read a DAY earlier each): how many PAGES are left.", () -> {
            dueRipped(new int[] {0});
            dueRipped(new int[] {2, 1, 0}, 1, 0);
            dueRipped(new int[] {1, 2, 0}, 1, 0);
            dueRipped(new int[] {1, 0, 2}, 1, 0);
            dueRipped(new int[] {0, 2, 1}, 0, 1);
            dueRipped(new int[] {5, 4, 3, 2, 1, 0}, 4, 3, 2, 1, 0);
            dueRipped(new int[] {0, 1, 2, 3, 4, 5}, 0, 1, 2, 3, 4);
        });
        Edges.test(18, "how many PAGES are left.", () -> {
            LastPage x = Checks.bookOf("p0 p11 e1");
            x.rip();
            Edges.due("judged by what is left", x.judge(2, 0, 1), 1);
            Edges.due("judged by what is left", x.judge(1, 0, 1), 0);
            Edges.due("best by what is left", x.best(0), 0);
            Edges.dueRow("best by what is left", x, 0, 0, 1);
        });
        Edges.test(18, "STATE: no PAGES.", () -> {
            Edges.refused(Edges::bare, "at first", x -> x.rip(), Edges.STATE, 0);
            Edges.refused(Edges::torn, "all torn out", x -> x.rip(), Edges.STATE, 0);
        });
    }

    private static void keep() {
        Edges.test(19, "The BOOK is kept in a place (0 .. 2): how many PAGES.", () -> {
            LastPage x = Checks.bookOf("p0p0p0p0p0p0");
            for (int k = 0; k < 3; k++) {
                Edges.due("keep(" + k + ")", x.keep(k), 6 - k);
                Edges.due("count(6)", x.count(6), k + 1);
                x.rip();
            }
            for (int k = 0; k < 3; k++) Edges.due("on(" + k + ")", x.on(k), 6 - k);
            Edges.due("over another one", x.keep(0), 4);
            Edges.due("still three", x.count(6), 3);
            Edges.due("over another one", x.on(0), 4);
        });
        Edges.test(19, "BAD;", () -> {
            Edges.bounds(Edges::rich, "place", 0, 2, (x, k) -> x.keep(k));
            Edges.bad(Edges::torn, "BAD ahead of STATE", x -> x.keep(3));
        });
        Edges.test(19, "STATE: no PAGES.", () -> {
            for (int k = 0; k < 3; k++) {
                int place = k;
                Edges.refused(Edges::torn, "place " + k, x -> x.keep(place), Edges.STATE, 0);
                Edges.refused(Edges::bare, "place " + k, x -> x.keep(place), Edges.STATE, 0);
            }
        });
    }

    private static void on() {
        Edges.test(20, "The BOOK is as it was kept: how many PAGES.", () -> {
            LastPage x = Checks.bookOf("p1 d64");
            x.swap(0, 1);
            x.keep(1);
            x.reverse(0, 0);
            x.swap(0, 1);
            x.rip();
            x.add(1, 3);
            x.add(1, 3);
            for (int again = 0; again < 2; again++) {
                Edges.due("on(1)", x.on(1), 2);
                Edges.due("count(0)", x.count(0), 2);
                duePage(x, 0, 0, 1, 0, Edges.NONE, Edges.NONE, 0);
                duePage(x, 1, 3, 0, 64, Edges.NONE, 4, 1);
                Edges.due("kept still", x.count(6), 1);
                x.rip();
                x.reverse(0, 0);
            }
            x.rip();
            Edges.due("from no PAGES", x.on(1), 2);
        });
        Edges.test(20, "BAD;", () -> Edges.bounds(Edges::rich, "place", 0, 2, (x, k) -> x.on(k)));
        Edges.test(20, "NOTHING.", () -> {
            Edges.found(Edges::rich, "nothing was kept there", x -> x.on(1), Edges.NOTHING);
            for (int k = 0; k < 3; k++) {
                int place = k;
                Edges.found(Edges::bare, "nothing is kept at first", x -> x.on(place), Edges.NOTHING);
            }
            Edges.found(x -> {
                Edges.rich(x);
                x.book(0);
            }, "they went", x -> x.on(0), Edges.NOTHING);
        });
        Edges.test(20, "1 NOTHING (a ROW, a TEXT, a kept BOOK that is missing)", () -> {
            LastPage x = new LastPage();
            x.at(0, 0);
            x.put(0, 0, 0);
            x.on(0);
            Edges.due("findings(1)", x.findings(1), 3);
        });
    }
}
