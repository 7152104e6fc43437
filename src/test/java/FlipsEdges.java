/** Edges of the promises 33 to 36: what flips, what matters. */
final class FlipsEdges {
    /** CASE 14 is 0, 1, 0, 1, 0, 1 from DAY to DAY. */
    private static final String EACH_DAY = "e13 e0 p12 p02 p11 p0";

    private FlipsEdges() {
    }

    static void all() {
        flips();
        flip();
        most();
        matter();
        matterLeftOut();
    }

    private static void dueFlips(String signs, int marks, int want) {
        Edges.due("flips(" + marks + ") of '" + signs + "'", Checks.bookOf(signs).flips(marks), want);
    }

    private static void flips() {
        Edges.test(33, "How often a CASE flips: from one DAY to the next one,", () -> {
            dueFlips("", 31, 0);
            dueFlips("p1", 0, 0);
            dueFlips("p0", 0, 0);
            dueFlips("e1 p0", 0, 1);
            dueFlips("e0 p1", 31, 1);
            dueFlips(EACH_DAY, 14, 5);
        });
        Edges.test(33, "of DAYS on which PAGES are read,", () -> {
            dueFlips("s1", 0, 0);
            dueFlips("p0p0 s1", 0, 0);
            dueFlips("p0p0p0 s1", 0, 1);
        });
        Edges.test(33, "from SURE to the other SURE (DAYS on which it WAITS passed over).", () -> {
            dueFlips("d50 e15 p0", 1, 1);
            dueFlips("d50 e15 p0", 2, 0);
            dueFlips("d50 p0p0p0 e15 p0", 1, 1);
            dueFlips("d50 p15", 1, 0);
            dueFlips("p15 p0", 1, 0);
        });
        Edges.test(33, "BAD.", () -> {
            Edges.bounds(Edges::rich, "CASE", 0, 31, (x, marks) -> x.flips(marks));
            Edges.bounds(Edges::bare, "CASE", 0, 31, (x, marks) -> x.flips(marks));
        });
    }

    private static void flip() {
        Edges.test(34, "The PAGE that is read on the DAY on which it flips for the n-th time (0, 1, ..).", () -> {
            LastPage x = Checks.bookOf(EACH_DAY);
            for (int n = 0; n < 5; n++) Edges.due("flip(14, " + n + ")", x.flip(14, n), 4 - n);
            LastPage y = Checks.bookOf("p0 e1");
            y.swap(0, 1);
            Edges.due("by another order", y.flip(0, 0), 1);
            Edges.due("DAYS on which it WAITS between", Checks.bookOf("d50 e15 p0").flip(1, 0), 0);
        });
        Edges.test(34, "NONE: not so often.", () -> {
            LastPage x = Checks.bookOf(EACH_DAY);
            Edges.due("one more", x.flip(14, 5), Edges.NONE);
            Edges.due("two more", x.flip(14, 6), Edges.NONE);
            Edges.due("the greatest", x.flip(14, Edges.GREATEST), Edges.NONE);
            Edges.due("never", x.flip(0, 0), Edges.NONE);
            Edges.due("no PAGES", new LastPage().flip(31, 0), Edges.NONE);
        });
        Edges.test(34, "BAD:", () -> {
            Edges.bounds(Edges::rich, "CASE", 0, 31, (x, marks) -> x.flip(marks, 0));
            Edges.bounds(Edges::bare, "CASE", 0, 31, (x, marks) -> x.flip(marks, Edges.GREATEST));
        });
        Edges.test(34, "n below 0.", () -> {
            Edges.bad(Edges::rich, "-1", x -> x.flip(0, -1));
            Edges.bad(Edges::rich, "the least", x -> x.flip(31, Edges.LEAST));
            Edges.bad(Edges::bare, "-1", x -> x.flip(0, -1));
        });
    }

    private static void dueMost(String signs, int want, int times) {
        LastPage x = Checks.bookOf(signs);
        Edges.dueTold("most() of '" + signs + "'", x, x.most(), want, times);
    }

    private static void most() {
        Edges.test(35, "The CASE that flips most (the first); how often by asked().", () -> {
            dueMost("", 0, 0);
            dueMost("p1", 0, 0);
            dueMost("e0 p1", 0, 1);
            dueMost("p101234 p0", 31, 1);
            dueMost("p14 p0", 16, 1);
            dueMost(EACH_DAY, 14, 5);
        });
    }

    private static void dueMatter(String signs, int i, int day, int want) {
        Edges.due("matter(" + i + ", " + day + ") of '" + signs + "'", Checks.bookOf(signs).matter(i, day), want);
    }

    private static void matter() {
        Edges.test(36, "For how many CASES what they are (SURE 0, SURE 1, or waiting) on a DAY is otherwise,", () -> {
            dueMatter("p1", 0, 0, 32);
            dueMatter("p1", 0, 20, 32);
            dueMatter("p0", 0, 0, 0);
            dueMatter("p101234", 0, 0, 1);
            dueMatter("p15", 0, 0, 31);
            dueMatter("p15 d50", 0, 1, 16);
            dueMatter("p15 d50", 1, 1, 30);
            dueMatter("p15 d50", 1, 0, 0);
        });
        Edges.test(36, "BAD.", () -> {
            Edges.bounds(Edges::rich, "PAGE", 0, 5, (x, i) -> x.matter(i, 0));
            Edges.bounds(Edges::rich, "DAY", 0, 20, (x, day) -> x.matter(0, day));
            Edges.bad(Edges::torn, "no PAGES", x -> x.matter(0, 0));
            Edges.bounds(x -> x.add(1, 0), "the one PAGE", 0, 0, (x, i) -> x.matter(i, 0));
        });
    }

    private static void matterLeftOut() {
        Edges.test(36, "if a PAGE is left out (it BINDS never, nothing is read instead).", () -> {
            dueMatter("e0 p1", 0, 0, 0);
            dueMatter("s1", 0, 2, 32);
            dueMatter("s1", 0, 3, 0);
            dueMatter("i11 p0", 0, 0, 32);
            dueMatter("i11 p0", 1, 0, 32);
            dueMatter("o11 p0", 1, 1, 32);
            dueMatter("d50 d51 p15", 0, 2, 16);
            dueMatter("d50 d51 p15", 1, 2, 0);
            // Were another read instead, page 0 would rule on DAY 0, and the STRUCK one would end on DAY 2.
            dueMatter("p1 p0", 1, 0, 0);
            dueMatter("s1 p0", 1, 3, 0);
            LastPage x = Checks.bookOf("p1 d50");
            x.matter(1, 1);
            Edges.due("it is there as before", x.binds(1), 3);
            x.reverse(0, 0);
            Edges.due("of the BOOK as it is now", x.matter(0, 1), 0);
            x.add(1, 1);
            Edges.due("of the BOOK as it is now", x.matter(2, 2), 16);
        });
    }
}
