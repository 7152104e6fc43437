/** Edges of the promises 39 to 41: what was meant, of which kind, lots. */
final class FitsEdges {
    private static final int LEAST = Edges.LEAST, GREATEST = Edges.GREATEST;

    private FitsEdges() {
    }

    static void all() {
        meant();
        meantRefused();
        kinds();
        kindsRefused();
        lots();
        lotsRefused();
    }

    private static void dueMeant(String signs, int want, int fives, int... threes) {
        LastPage x = Checks.bookOf(signs);
        Checks.layRow(x, 5, threes);
        Edges.dueTold("meant of '" + signs + "'", x, x.meant(5), want, fives);
    }

    private static void meant() {
        Edges.test(39, "From a ROW of threes (a CASE, a DAY, the VERDICT that was given)", () -> {
            dueMeant("p15", 25, 31);
            dueMeant("p15", 25, 31, 0, 0, 0);
            dueMeant("p15", 25, 31, 31, 20, 1);
            int[] thirteen = new int[39];
            for (int k = 0; k < 39; k += 3) thirteen[k] = 1;
            dueMeant("p15", 20, 30, thirteen);
            thirteen[36] = 31;
            dueMeant("p15", 0, 0, thirteen);
        });
        Edges.test(39, "by how many MEANINGS (of all 25) it can be, each VERDICT being by that MEANING,", () -> {
            dueMeant("p156", 1, 1, 1, 0, 1);
            dueMeant("p156", 24, 31, 1, 0, 0);
            dueMeant("p156", 1, 16, 16, 0, 1);
            dueMeant("p15", 5, 16, 16, 0, 1);
            dueMeant("", 25, 31, 31, 0, 0);
            dueMeant("", 0, 0, 31, 0, 1);
            dueMeant("p15", 0, 0, 1, 0, 1, 2, 0, 1);
        });
        Edges.test(39, "whatever is told (of DEFINITIONS that BIND, too);", () -> {
            dueMeant("p15 d50", 5, 2, 2, 1, 1);
            dueMeant("p15 d50", 20, 30, 1, 20, 0);
            dueMeant("p15 d50", 25, 31, 1, 0, 0);
            dueMeant("p15 d50", 0, 0, 1, 0, 1);
        });
        Edges.test(39, "which FACTS WORD 5 can mean by asked() (bits).", () -> {
            for (int fact = 0; fact < 5; fact++) {
                dueMeant("p15", 5, 1 << fact, 1 << fact, 0, 1);
                dueMeant("p15", 20, 31 ^ 1 << fact, 1 << fact, 0, 0);
                dueMeant("p16", 5, 31, 1 << fact, 0, 1);
            }
        });
    }

    private static void refusedRow(String what, int finding, int... ints) {
        Edges.found(x -> {
            Edges.rich(x);
            Checks.layRow(x, 4, ints);
            x.at(1, 1);
        }, what, x -> x.meant(4), finding);
    }

    private static void meantRefused() {
        Edges.test(39, "BAD;", () -> Edges.bounds(Edges::rich, "ROW", 0, 5, (x, r) -> x.meant(r)));
        Edges.test(39, "NOTHING;", () -> Edges.found(Edges::rich, "a missing one", x -> x.meant(5), Edges.NOTHING));
        Edges.test(39, "SIZE: not by threes;", () -> {
            for (int n = 0; n <= 40; n++) {
                LastPage x = new LastPage();
                x.row(0, n);
                Edges.due("of " + n, x.meant(0), n % 3 == 0 ? 25 : Edges.FINDING);
            }
            for (int n : new int[] {1, 2, 4, 5, 38, 40}) refusedRow("of " + n, Edges.SIZE, new int[n]);
            refusedRow("SIZE ahead of UNLIKE", Edges.SIZE, 32, 21, 2, 0);
        });
        Edges.test(39, "UNLIKE.", () -> {
            for (int none : new int[] {LEAST, -1, 32, GREATEST}) {
                refusedRow("CASE " + none, Edges.UNLIKE, none, 0, 0);
                refusedRow("the last CASE " + none, Edges.UNLIKE, 31, 20, 1, none, 0, 0);
            }
            for (int none : new int[] {LEAST, -1, 21, GREATEST}) {
                refusedRow("DAY " + none, Edges.UNLIKE, 0, none, 0);
                refusedRow("the last DAY " + none, Edges.UNLIKE, 31, 20, 1, 0, none, 0);
            }
            for (int none : new int[] {LEAST, -1, 2, GREATEST}) {
                refusedRow("VERDICT " + none, Edges.UNLIKE, 0, 0, none);
                refusedRow("the last VERDICT " + none, Edges.UNLIKE, 31, 20, 1, 0, 0, none);
            }
            // UNLIKE though no MEANING is left by what stands ahead.
            refusedRow("behind what can't be", Edges.UNLIKE, 0, 0, 0, 0, 0, 1, 0, 0, 2);
        });
    }

    private static void dueKinds(String signs, int i, int marks, int day, int verdict, int want) {
        String call = "kinds(" + i + ", " + marks + ", " + day + ", " + verdict + ") of " + signs;
        Edges.due(call, Checks.bookOf(signs).kinds(i, marks, day, verdict), want);
    }

    private static void kinds() {
        Edges.test(40, "Of which KINDS (bits 0, 1, 4) a PAGE of one of these can be", () -> {
            for (String letter : new String[] {"p", "e", "s"}) {
                dueKinds(letter + "1", 0, 0, 0, 1, 19);
                dueKinds(letter + "1", 0, 0, 0, 0, 0);
                dueKinds(letter + "1", 0, 0, 2, 1, 19);
                dueKinds(letter + "1", 0, 0, 3, 1, 3);
                dueKinds(letter + "1", 0, 0, 3, 0, 16);
                dueKinds(letter + "1", 0, 0, 20, 0, 16);
                dueKinds("p0 " + letter + "1", 1, 0, 1, 1, 18);
                dueKinds("p0 " + letter + "1", 1, 0, 1, 0, 1);
            }
        });
        Edges.test(40, "so that a CASE on a DAY is SURE to have a VERDICT.", () -> {
            dueKinds("p15", 0, 0, 0, 0, 19);
            dueKinds("p15", 0, 31, 0, 1, 19);
            dueKinds("p15", 0, 1, 0, 1, 0);
            dueKinds("p15", 0, 1, 0, 0, 0);
            dueKinds("p15", 0, 1, 3, 0, 16);
            LastPage x = Checks.bookOf("p1");
            x.kinds(0, 0, 0, 0);
            Edges.dueTold("it is of its KIND still", x, x.page(0, 0), 1, 0);
            x.reverse(0, 0);
            Edges.due("of the BOOK as it is now", x.kinds(0, 0, 0, 0), 19);
            x.add(1, 0);
            Edges.due("of the BOOK as it is now", x.kinds(1, 0, 1, 1), 18);
        });
    }

    private static void kindsRefused() {
        Edges.test(40, "BAD;", () -> {
            Edges.bounds(Edges::rich, "PAGE", 0, 5, (x, i) -> x.kinds(i, 0, 0, 0));
            Edges.bounds(Edges::rich, "CASE", 0, 31, (x, marks) -> x.kinds(0, marks, 0, 0));
            Edges.bounds(Edges::rich, "DAY", 0, 20, (x, day) -> x.kinds(0, 0, day, 0));
            Edges.bounds(Edges::rich, "VERDICT", 0, 1, (x, v) -> x.kinds(0, 0, 0, v));
            Edges.bad(Edges::torn, "no PAGES", x -> x.kinds(0, 0, 0, 0));
            Edges.bad(Edges::rich, "BAD ahead of UNLIKE", x -> x.kinds(2, 32, 0, 0));
            Edges.bad(Edges::rich, "BAD ahead of UNLIKE", x -> x.kinds(3, 0, 21, 0));
            Edges.bad(Edges::rich, "BAD ahead of UNLIKE", x -> x.kinds(5, 0, 0, 2));
        });
        Edges.test(40, "UNLIKE: it is of another KIND.", () -> {
            for (int i : new int[] {2, 3, 5}) {
                Edges.found(Edges::rich, "PAGE " + i, x -> x.kinds(i, 0, 0, 0), Edges.UNLIKE);
                Edges.found(Edges::rich, "PAGE " + i, x -> x.kinds(i, 31, 20, 1), Edges.UNLIKE);
            }
            LastPage y = new LastPage();
            Edges.rich(y);
            for (int i : new int[] {0, 1, 4}) Edges.due("PAGE " + i, y.kinds(i, 0, 0, 0) >= 0 ? 1 : 0, 1);
        });
    }

    /** The lots once more by longs that can't be too great, each CASE asked for by verdict(). */
    private static int waitingByLots(LastPage x, int n, int seed) {
        java.math.BigInteger number = java.math.BigInteger.valueOf(seed);
        int waiting = 0;
        for (int k = 0; k < n; k++) {
            number = number.multiply(java.math.BigInteger.valueOf(48271)).mod(java.math.BigInteger.valueOf(2147483647));
            int it = number.intValueExact();
            if (x.verdict(it % 32, it / 32 % 21) == Edges.NONE) waiting++;
        }
        return waiting;
    }

    private static void lots() {
        Edges.test(41, "n (1 .. 60) times by LOTS of a seed a number:", () -> {
            Edges.due("one that WAITS", Checks.bookOf("p15").lots(1, 1), 1);
            Edges.due("one that is SURE", Checks.bookOf("p15").lots(1, 17), 0);
            Edges.due("sixty without PAGES", new LastPage().lots(60, 1), 0);
            for (int n = 1; n <= 60; n++) {
                LastPage x = Checks.bookOf("p156 s15 e0014 d63 p0");
                Edges.due(n + " times", x.lots(n, 5), waitingByLots(x, n, 5));
            }
        });
        Edges.test(41, "a CASE (it modulo 32), a DAY (it by 32, cut, modulo 21): how many WAIT.", () -> {
            // By seed 5: CASE 11 on DAY 3, CASE 10 on DAY 1; it BINDS till DAY 2.
            Edges.due("DAY 3", Checks.bookOf("s15").lots(1, 5), 0);
            Edges.due("DAY 1", Checks.bookOf("s15").lots(2, 5), 1);
            Edges.due("DAY 2", Checks.bookOf("s15").lots(1, 23), 1);
        });
        Edges.test(41, "LOTS: a number comes from the one ahead by 48271 times it modulo 2147483647, the first from a seed", () -> {
            for (int seed : new int[] {1, 2, 44488, 44489, 1 << 30, 2147483645, 2147483646}) {
                for (String signs : new String[] {"p15", "s156p0p0p0p0", "d50 p15"}) {
                    LastPage x = Checks.bookOf(signs);
                    Edges.due("seed " + seed + " for " + signs, x.lots(60, seed), waitingByLots(x, 60, seed));
                }
            }
        });
    }

    private static void lotsRefused() {
        Edges.test(41, "BAD.", () -> Edges.bounds(Edges::rich, "n", 1, 60, (x, n) -> x.lots(n, 77)));
        Edges.test(41, "(1 .. 2147483646).", () -> {
            for (int seed : new int[] {LEAST, -1, 0, 2147483647}) {
                Edges.bad(Edges::rich, "seed " + seed, x -> x.lots(1, seed));
                Edges.bad(Edges::bare, "seed " + seed, x -> x.lots(60, seed));
            }
            Edges.due("the least", new LastPage().lots(60, 1), 0);
            Edges.due("the greatest", new LastPage().lots(60, 2147483646), 0);
        });
    }
}
