/** Edges of the promises 21 to 24: what binds, what is meant. */
final class BindsEdges {
    private BindsEdges() {
    }

    static void all() {
        binds();
        bindsByPointing();
        means();
        meansRefused();
        meanings();
        never();
    }

    /** What BINDS from DAY 0 on; the last of them till DAY 20. */
    private static void dueBinds(String signs, int... want) {
        LastPage x = Checks.bookOf(signs);
        for (int day = 0; day <= 20; day++) {
            Edges.due("binds(" + day + ") of " + signs, x.binds(day), want[Math.min(day, want.length - 1)]);
        }
    }

    private static void binds() {
        Edges.test(21, "PAGES that BIND on a DAY (bits).", () -> {
            dueBinds("", 0);
            dueBinds("p0", 1);
            dueBinds("p0p0p0p0p0p0", 32, 48, 56, 60, 62, 63);
        });
        Edges.test(21, "BAD.", () -> {
            Edges.bounds(Edges::rich, "DAY", 0, 20, (x, day) -> x.binds(day));
            Edges.bounds(Edges::bare, "DAY", 0, 20, (x, day) -> x.binds(day));
        });
        Edges.test(21, "DAYS 0 .. 20 can be asked for.", () -> {
            LastPage x = Checks.bookOf("p0");
            Edges.due("binds(0)", x.binds(0), 1);
            Edges.due("binds(20)", x.binds(20), 1);
            Edges.due("binds(-1)", x.binds(-1), Edges.BAD);
            Edges.due("binds(21)", x.binds(21), Edges.BAD);
        });
        Edges.test(21, "A DAY on which none is read any more is as the last one, but for STRUCK ones.", () -> {
            dueBinds("p0 e0 d50", 4, 6, 7);
            dueBinds("p0 s0", 2, 3, 3, 1);
            dueBinds("s0 s0", 2, 3, 3, 1, 0);
        });
        Edges.test(21, "On a DAY BINDS: a PAGE, an EXCEPTION, a DEFINITION from when it is read on;", () -> {
            dueBinds("p0 p0 p0", 4, 6, 7);
            dueBinds("p0 e0 p0", 4, 6, 7);
            dueBinds("p0 d50 p0", 4, 6, 7);
            dueBinds("d50", 1);
            dueBinds("e0", 1);
        });
        Edges.test(21, "a STRUCK one on that DAY and the next two alone;", () -> {
            dueBinds("s0", 1, 1, 1, 0);
            dueBinds("p0 s0 p0", 4, 6, 7, 7, 5);
            dueBinds("s0p0p0p0p0p0", 32, 48, 56, 60, 62, 63, 63, 63, 62);
        });
    }

    private static void bindsByPointing() {
        Edges.test(21, "a POINTER from when it is read on, if the PAGE to which it points BINDS;", () -> {
            dueBinds("o10 p0", 2, 3);
            dueBinds("p0 o00", 0, 3);
            dueBinds("o10 p0 p0", 4, 6, 7);
            dueBinds("o20 p0 s0", 4, 6, 7, 2);
            dueBinds("o30 p0 p0 s0", 8, 12, 14, 6);
            dueBinds("o10 o20 p0", 4, 6, 7);
            dueBinds("p0 o00 o10", 0, 0, 7);
        });
        Edges.test(21, "an INDEX, read or not, if that one does.", () -> {
            dueBinds("i10 p0", 3);
            dueBinds("p0 i00", 0, 3);
            dueBinds("i20 p0 s0", 5, 7, 7, 2);
            dueBinds("i10 o20 p0", 4, 7);
            dueBinds("i10 i20 i30 i40 i50 p0", 63);
            dueBinds("p0 i00 i10 i20 i30 i40", 0, 0, 0, 0, 0, 63);
        });
        Edges.test(21, "(POINTERS, INDEXES that point to one another in a ring, or to none, never do.)", () -> {
            dueBinds("o00", 0);
            dueBinds("i00", 0);
            dueBinds("o10 i00", 0);
            dueBinds("o10 o20 o30 o40 o50 o00", 0);
            dueBinds("i10 i20 i30 i40 i50 i00", 0);
            dueBinds("i10 i20 i30 i40 i50 i50", 0);
            dueBinds("o10", 0);
            dueBinds("i10", 0);
            dueBinds("o20 i20", 0);
            dueBinds("p0 o50 i20", 0, 0, 1);
        });
    }

    private static void means() {
        Edges.test(22, "What a WORD (5, 6) can mean on a DAY (FACTS; bits).", () -> {
            for (int fact = 0; fact < 5; fact++) {
                LastPage x = Checks.bookOf("d5" + fact + "d6" + (4 - fact));
                Edges.due("5 on DAY 0", x.means(5, 0), 31);
                Edges.due("6 on DAY 0", x.means(6, 0), 1 << 4 - fact);
                Edges.due("5 on DAY 1", x.means(5, 1), 1 << fact);
                Edges.due("5 on DAY 20", x.means(5, 20), 1 << fact);
                Edges.due("6 on DAY 20", x.means(6, 20), 1 << 4 - fact);
            }
        });
        Edges.test(22, "A MEANING is a FACT for WORD 5, and one for WORD 6.", () -> {
            LastPage x = Checks.bookOf("d50");
            Edges.due("5", x.means(5, 0), 1);
            Edges.due("6", x.means(6, 0), 31);
            LastPage y = Checks.bookOf("d60");
            Edges.due("5", y.means(5, 0), 31);
            Edges.due("6", y.means(6, 0), 1);
        });
        Edges.test(22, "On a DAY a WORD means what the DEFINITION of it that BINDS and was read last tells;", () -> {
            LastPage x = Checks.bookOf("d50d51d52d53d54d50");
            int[] facts = {1, 16, 8, 4, 2, 1};
            for (int day = 0; day <= 20; day++) Edges.due("DAY " + day, x.means(5, day), facts[Math.min(day, 5)]);
            Checks.layRow(x, 0, 3, 5, 0, 4, 1, 2);
            x.read(0);
            int[] then = {8, 1, 1, 16, 2, 4};
            for (int day = 0; day <= 20; day++) Edges.due("DAY " + day, x.means(5, day), then[Math.min(day, 5)]);
        });
        Edges.test(22, "each FACT can be meant, where none BINDS.", () -> {
            Edges.due("no PAGES", new LastPage().means(5, 0), 31);
            Edges.due("no PAGES", new LastPage().means(6, 20), 31);
            LastPage x = Checks.bookOf("d64 p0p0p0p0p0");
            Edges.due("not read yet", x.means(6, 4), 31);
            Edges.due("read", x.means(6, 5), 16);
            LastPage y = Checks.bookOf("i105 d64");
            Edges.due("an INDEX is none", y.means(5, 20), 31);
            y.rip();
            Edges.due("torn out", y.means(6, 20), 31);
        });
        Edges.test(22, "WORDS are 0 .. 6; 0 .. 4 are FACTS, 5 and 6 have to be told what they mean.", () -> {
            for (int fact = 0; fact < 5; fact++) {
                LastPage x = Checks.bookOf("p1" + fact);
                Edges.due("WORD " + fact + " is SO", x.judge(1 << fact, 0, 0), 0);
                Edges.due("WORD " + fact + " is not", x.judge(31 ^ 1 << fact, 0, 0), Edges.NONE);
            }
            Edges.due("WORD 5 may be SO", Checks.bookOf("p15").verdict(1, 0), Edges.NONE);
            Edges.due("WORD 6 may be SO", Checks.bookOf("p16").verdict(1, 0), Edges.NONE);
        });
    }

    private static void meansRefused() {
        Edges.test(22, "BAD.", () -> {
            Edges.bounds(Edges::rich, "WORD", 5, 6, (x, word) -> x.means(word, 0));
            Edges.bounds(Edges::rich, "DAY", 0, 20, (x, day) -> x.means(5, day));
            Edges.bounds(Edges::bare, "DAY", 0, 20, (x, day) -> x.means(6, day));
            for (int fact = 0; fact < 5; fact++) {
                int word = fact;
                Edges.bad(Edges::rich, "WORD " + fact, x -> x.means(word, 0));
            }
        });
    }

    private static void meanings() {
        Edges.test(23, "How many MEANINGS there can be on a DAY.", () -> {
            LastPage x = Checks.bookOf("d50 d64 p0");
            int[] ways = {25, 5, 1, 1};
            for (int day = 0; day <= 20; day++) Edges.due("DAY " + day, x.meanings(day), ways[Math.min(day, 3)]);
            Edges.due("no PAGES", new LastPage().meanings(20), 25);
            Edges.due("5 told twice", Checks.bookOf("d50 d54").meanings(1), 5);
            Edges.due("both alike", Checks.bookOf("d50 d60").meanings(1), 1);
        });
        Edges.test(23, "BAD.", () -> Edges.bounds(Edges::rich, "DAY", 0, 20, (x, day) -> x.meanings(day)));
    }

    private static void dueNever(String signs, int never, int ring) {
        LastPage x = Checks.bookOf(signs);
        Edges.dueTold("never() of '" + signs + "'", x, x.never(), never, ring);
    }

    private static void never() {
        Edges.test(24, "PAGES that never BIND (bits; of DAYS 0 .. 20);", () -> {
            dueNever("", 0, 0);
            dueNever("p0 e0 d50 s0 o00 i00", 0, 0);
            dueNever("o10", 1, 0);
            dueNever("i50", 1, 0);
            dueNever("o50 o50 o50 o50 i50", 31, 0);
            // A pointer that is read on the last DAY on which a STRUCK one BINDS, and one a DAY later.
            dueNever("o20 p0 s0", 0, 0);
            dueNever("o30 p0 p0 s0", 1, 0);
            dueNever("i30 p0 p0 s0", 0, 0);
            dueNever("i10 o40 p0 p0 s0", 3, 0);
        });
        Edges.test(24, "those of them that point in a ring by asked().", () -> {
            dueNever("o00", 1, 1);
            dueNever("i00", 1, 1);
            dueNever("p0p0p0p0p0 o50", 32, 32);
            dueNever("o10 o00 p0", 3, 3);
            dueNever("i10 o00 o30 i20", 15, 15);
            dueNever("o10 o20 o30 o40 o50 o00", 63, 63);
            dueNever("i10 i20 i30 i40 i50 i00", 63, 63);
            dueNever("o10 o20 o30 o40 o50 o50", 63, 32);
            dueNever("o10 o20 o30 o40 p0 o50", 32, 32);
        });
    }
}
