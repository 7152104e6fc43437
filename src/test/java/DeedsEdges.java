/** Edges of the promises 30 to 32: deeds. */
final class DeedsEdges {
    private static final int LEAST = Edges.LEAST, GREATEST = Edges.GREATEST;

    private DeedsEdges() {
    }

    static void all() {
        free();
        deeds();
        deedsRefused();
        deedsSpent();
        order();
        orderRefused();
    }

    private static void dueFree(String signs, int marks, int day, int want) {
        Edges.due("free(" + marks + ", " + day + ") of '" + signs + "'", Checks.bookOf(signs).free(marks, day), want);
    }

    private static void free() {
        Edges.test(30, "The first DAY (0 .. 20), from one on, on which a CASE is SURE to be 0.", () -> {
            dueFree("", 31, 0, 0);
            dueFree("", 31, 20, 20);
            dueFree("s1", 0, 0, 3);
            dueFree("s1", 0, 2, 3);
            dueFree("s1", 0, 3, 3);
            dueFree("s1", 0, 4, 4);
            dueFree("s1p0p0p0p0p0", 0, 4, 4);
            dueFree("s1p0p0p0p0p0", 0, 5, 8);
            dueFree("e0p1", 0, 0, 1);
            dueFree("d50 p15", 2, 0, 1);
        });
        Edges.test(30, "NONE: none.", () -> {
            dueFree("p1", 0, 0, Edges.NONE);
            dueFree("p1", 31, 20, Edges.NONE);
            dueFree("p15", 1, 0, Edges.NONE);
            dueFree("p1 p0", 0, 0, 0);
            dueFree("p1 p0", 0, 1, Edges.NONE);
        });
        Edges.test(30, "BAD.", () -> {
            Edges.bounds(Edges::rich, "CASE", 0, 31, (x, marks) -> x.free(marks, 0));
            Edges.bounds(Edges::rich, "DAY", 0, 20, (x, day) -> x.free(0, day));
            Edges.bounds(x -> x.add(1, 0), "DAY", 0, 20, (x, day) -> x.free(0, day));
        });
    }

    private static void dueDeeds(String signs, int[] cases, int want, int... days) {
        for (int to : new int[] {0, 3, 5}) {
            LastPage x = Checks.bookOf(signs);
            Checks.layRow(x, 2, cases);
            x.row(3, 40);
            x.row(5, 1);
            Edges.due("deeds of '" + signs + "' to ROW " + to, x.deeds(2, to), want);
            Edges.dueRow("DAYS of '" + signs + "'", x, to, days);
            Edges.dueRow("deeds stay", x, 2, cases);
        }
    }

    private static void deeds() {
        Edges.test(31, "Deeds (a ROW of CASES, 8 at most), one behind the other, each on a DAY behind that of the one ahead,", () -> {
            dueDeeds("", new int[] {0}, 0, 0);
            dueDeeds("", new int[] {31, 31}, 1, 0, 1);
            dueDeeds("", new int[] {0, 31, 5, 5, 5, 6, 7, 0}, 7, 0, 1, 2, 3, 4, 5, 6, 7);
            dueDeeds("s1p0p0p0p0p0", new int[] {0, 0, 0, 0, 0, 0, 0, 0}, 10, 0, 1, 2, 3, 4, 8, 9, 10);
        });
        Edges.test(31, "on which it is SURE to be 0: the first DAYS come to another ROW (anew): the last DAY", () -> {
            dueDeeds("s1", new int[] {0, 0}, 4, 3, 4);
            dueDeeds("s10", new int[] {0, 1, 2}, 4, 0, 3, 4);
            dueDeeds("d50 p15", new int[] {2, 2}, 2, 1, 2);
            dueDeeds("d50 p15", new int[] {0, 2}, 1, 0, 1);
        });
        Edges.test(31, "(NONE without deeds, an empty ROW then).", () -> {
            dueDeeds("", new int[] {}, Edges.NONE);
            dueDeeds("p1", new int[] {}, Edges.NONE);
            LastPage x = new LastPage();
            Checks.layRow(x, 0, 7);
            x.at(0, 0);
            x.row(1, 0);
            Edges.due("to a missing one", x.deeds(1, 4), Edges.NONE);
            Edges.due("it is there", x.count(4), 3);
            Edges.due("not told by asked()", x.asked(), 7);
        });
    }

    /** Refused in the rich state, with other deeds in ROW 0; ROW 1 and ROW 5, which is missing, stay as they are. */
    private static void refusedDeeds(String what, int finding, boolean ordered, int... cases) {
        for (int to : new int[] {0, 1, 5}) {
            Edges.found(x -> {
                Edges.rich(x);
                Checks.layRow(x, 0, cases);
            }, what, x -> ordered ? x.order(0, to) : x.deeds(0, to), finding);
        }
    }

    private static void refusedSpent(String signs, boolean ordered, int... cases) {
        for (int to : new int[] {0, 1, 5}) {
            Edges.refused(x -> {
                Edges.rich(x);
                Checks.lay(x, 3, signs);
                x.book(3);
                Checks.layRow(x, 0, cases);
            }, "'" + signs + "' to ROW " + to, x -> ordered ? x.order(0, to) : x.deeds(0, to), Edges.SPENT, 0);
        }
    }

    private static void deedsRefused() {
        Edges.test(31, "BAD;", () -> {
            Edges.bounds(Edges::rich, "ROW", 0, 5, (x, r) -> x.deeds(r, 4));
            Edges.bounds(Edges::rich, "to ROW", 0, 5, (x, r) -> x.deeds(0, r));
            Edges.bad(Edges::rich, "BAD ahead of NOTHING", x -> x.deeds(5, 6));
            Edges.bad(Edges::rich, "BAD ahead of SIZE", x -> x.deeds(3, -1));
        });
        Edges.test(31, "NOTHING;", () -> Edges.found(Edges::rich, "missing deeds", x -> x.deeds(5, 1), Edges.NOTHING));
        Edges.test(31, "SIZE: more than 8;", () -> {
            refusedDeeds("nine", Edges.SIZE, false, 0, 0, 0, 0, 0, 0, 0, 0, 0);
            refusedDeeds("SIZE ahead of UNLIKE", Edges.SIZE, false, 32, 0, 0, 0, 0, 0, 0, 0, 0);
            Edges.found(Edges::rich, "40", x -> x.deeds(3, 1), Edges.SIZE);
        });
        Edges.test(31, "UNLIKE: no CASE.", () -> {
            for (int none : new int[] {LEAST, -1, 32, GREATEST}) {
                refusedDeeds(none + " alone", Edges.UNLIKE, false, none);
                refusedDeeds(none + " last of eight", Edges.UNLIKE, false, 0, 0, 0, 0, 0, 0, 0, none);
            }
        });
    }

    private static void deedsSpent() {
        Edges.test(31, "SPENT: not till DAY 20.", () -> {
            refusedSpent("p1", false, 0);
            refusedSpent("p10 p0", false, 0, 1);
            refusedSpent("p10 p0", false, 1, 1);
            refusedSpent("p15", false, 0, 31, 0);
            refusedSpent("p15", false, 1);
        });
        Edges.test(31, "(SPENT last.)", () -> {
            Edges.found(x -> {
                x.add(1, 0);
                Checks.layRow(x, 0, 0, 32);
            }, "UNLIKE ahead of SPENT", x -> x.deeds(0, 1), Edges.UNLIKE);
            Edges.found(x -> {
                x.add(1, 0);
                x.row(0, 9);
            }, "SIZE ahead of SPENT", x -> x.deeds(0, 1), Edges.SIZE);
            Edges.found(x -> x.add(1, 0), "NOTHING ahead of SPENT", x -> x.deeds(0, 1), Edges.NOTHING);
        });
    }

    private static void dueOrder(String signs, int[] cases, int want, int... places) {
        for (int to : new int[] {0, 3, 5}) {
            LastPage x = Checks.bookOf(signs);
            Checks.layRow(x, 2, cases);
            x.row(3, 40);
            x.row(5, 1);
            Edges.due("order of '" + signs + "' to ROW " + to, x.order(2, to), want);
            Edges.dueRow("places of '" + signs + "'", x, to, places);
            Edges.dueRow("deeds stay", x, 2, cases);
        }
    }

    private static void order() {
        Edges.test(32, "The same deeds in the order by which the last DAY is first", () -> {
            dueOrder("", new int[] {31}, 0, 0);
            dueOrder("p10 p0", new int[] {0, 1}, 1, 1, 0);
            // CASE 1 is free on DAY 0 and from DAY 4 on.
            dueOrder("s10 p0", new int[] {2, 1, 1}, 4, 1, 0, 2);
            dueOrder("p11 p10 p0", new int[] {0, 0, 0, 2, 1}, 4, 4, 3, 0, 1, 2);
        });
        Edges.test(32, "(of alike orders the first): places of the ROW come to another ROW (anew): that DAY", () -> {
            dueOrder("", new int[] {5, 5, 5, 5, 5}, 4, 0, 1, 2, 3, 4);
            dueOrder("", new int[] {9, 3, 7}, 2, 0, 1, 2);
            dueOrder("s1", new int[] {1, 0}, 4, 0, 1);
            dueOrder("p10 p0", new int[] {0, 1, 2}, 2, 1, 0, 2);
        });
        Edges.test(32, "(NONE without deeds).", () -> {
            dueOrder("", new int[] {}, Edges.NONE);
            dueOrder("p1", new int[] {}, Edges.NONE);
        });
    }

    private static void orderRefused() {
        Edges.test(32, "BAD;", () -> {
            Edges.bounds(Edges::rich, "ROW", 0, 5, (x, r) -> x.order(r, 4));
            Edges.bounds(Edges::rich, "to ROW", 0, 5, (x, r) -> x.order(0, r));
            Edges.bad(Edges::rich, "BAD ahead of NOTHING", x -> x.order(5, 6));
            Edges.bad(Edges::rich, "BAD ahead of SIZE", x -> x.order(3, -1));
        });
        Edges.test(32, "NOTHING;", () -> Edges.found(Edges::rich, "missing deeds", x -> x.order(5, 1), Edges.NOTHING));
        Edges.test(32, "SIZE: more than 5;", () -> {
            refusedDeeds("six", Edges.SIZE, true, 0, 0, 0, 0, 0, 0);
            refusedDeeds("eight", Edges.SIZE, true, 0, 0, 0, 0, 0, 0, 0, 0);
            refusedDeeds("SIZE ahead of UNLIKE", Edges.SIZE, true, 32, 0, 0, 0, 0, 0);
        });
        Edges.test(32, "UNLIKE.", () -> {
            for (int none : new int[] {LEAST, -1, 32, GREATEST}) {
                refusedDeeds(none + " alone", Edges.UNLIKE, true, none);
                refusedDeeds(none + " last of five", Edges.UNLIKE, true, 0, 0, 0, 0, none);
            }
        });
        Edges.test(32, "SPENT: by none till DAY 20.", () -> {
            refusedSpent("p1", true, 0);
            refusedSpent("p10 p0", true, 1, 1);
            refusedSpent("p15", true, 0, 1);
            refusedSpent("p15", true, 0, 0, 0, 0, 31);
        });
        Edges.test(32, "(SPENT last.)", () -> {
            Edges.found(x -> {
                x.add(1, 0);
                Checks.layRow(x, 0, 0, 32);
            }, "UNLIKE ahead of SPENT", x -> x.order(0, 1), Edges.UNLIKE);
            Edges.found(x -> {
                x.add(1, 0);
                x.row(0, 6);
            }, "SIZE ahead of SPENT", x -> x.order(0, 1), Edges.SIZE);
            Edges.found(x -> x.add(1, 0), "NOTHING ahead of SPENT", x -> x.order(0, 1), Edges.NOTHING);
        });
    }
}
