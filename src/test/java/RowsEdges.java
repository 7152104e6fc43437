/** Edges of the promises 1 to 7: a new object, rows. */
final class RowsEdges {
    private static final int LEAST = Edges.LEAST, GREATEST = Edges.GREATEST;

    private RowsEdges() {
    }

    static void all() {
        newObject();
        row();
        rowRefused();
        lay();
        at();
        tear();
        copy();
        copyRefused();
        mean();
        meanRefused();
    }

    private static LastPage withRow(int... ints) {
        LastPage x = new LastPage();
        Checks.layRow(x, 0, ints);
        return x;
    }

    private static void newObject() {
        Edges.test(1, "No ROWS", () -> {
            LastPage x = new LastPage();
            Edges.due("count(4)", x.count(4), 0);
            for (int r = 0; r < 6; r++) Edges.dueFinding("at(" + r + ", 0)", x, x.at(r, 0), Edges.NOTHING);
        });
        Edges.test(1, "TEXTS", () -> {
            LastPage x = new LastPage();
            Edges.due("count(5)", x.count(5), 0);
            for (int t = 0; t < 4; t++) Edges.dueFinding("put(" + t + ", 0, 0)", x, x.put(t, 0, 0), Edges.NOTHING);
        });
        Edges.test(1, "PAGES.", () -> {
            LastPage x = new LastPage();
            Edges.due("count(0)", x.count(0), 0);
            Edges.due("page(0, 0)", x.page(0, 0), Edges.BAD);
            Edges.due("binds(20)", x.binds(20), 0);
            Edges.due("rip()", x.rip(), Edges.STATE);
        });
        Edges.test(1, "A BOOK (without PAGES at first) is a TEXT:", () -> {
            LastPage x = new LastPage();
            Edges.due("keep(0)", x.keep(0), Edges.STATE);
            for (int k = 0; k < 3; k++) Edges.dueFinding("on(" + k + ")", x, x.on(k), Edges.NOTHING);
        });
        Edges.test(1, "or missing (at first)", () -> {
            LastPage x = new LastPage();
            long h = 17;
            for (int k = 0; k < 7; k++) h = 31 * h;
            for (int k = 0; k < 3 + 6 + 4; k++) h = 31 * h - 1;
            Edges.due("digest()", x.digest(), h);
        });
    }

    private static void row() {
        Edges.test(2, "A ROW is there with n ints 0: n.", () -> {
            for (int n : new int[] {0, 1, 39, 40}) {
                LastPage x = new LastPage();
                Edges.due("row(2, " + n + ")", x.row(2, n), n);
                Edges.due("count(4)", x.count(4), 1);
                Edges.dueRow("of " + n, x, 2, new int[n]);
            }
        });
        Edges.test(2, "ints 0", () -> {
            LastPage x = withRow(1, 2, 3, 4);
            Edges.due("row(0, 2)", x.row(0, 2), 2);
            Edges.dueRow("shorter, anew", x, 0, 0, 0);
            Edges.due("row(0, 4)", x.row(0, 4), 4);
            Edges.dueRow("longer, anew", x, 0, 0, 0, 0, 0);
            Edges.due("row(0, 0)", x.row(0, 0), 0);
            Edges.dueRow("empty, anew", x, 0);
        });
        Edges.test(2, "A ROW is there with n ints", () -> {
            // What stood behind the end of a ROW that is shorter now is no part of it.
            LastPage x = Checks.bookOf("p0 p0");
            Checks.layRow(x, 0, 9, 99, 99, 99, 99);
            x.row(0, 1);
            Edges.dueTold("mean", x, x.mean(0), 1, 0);
            Edges.due("deeds", x.deeds(0, 1), 0);
            Edges.due("order", x.order(0, 1), 0);
            Edges.dueFinding("copy", x, x.copy(0, 0, 1, 0, 2), Edges.BEYOND);
            Checks.layRow(x, 0, 9, 99, 99, 99, 99);
            x.row(0, 0);
            Edges.dueTold("meant", x, x.meant(0), 25, 31);
            Checks.layRow(x, 0, 9, 99, 99, 99, 99);
            Checks.layRow(x, 0, 0, 1);
            Edges.due("read", x.read(0), 1);
            LastPage y = Checks.bookOf("p0 p0");
            Checks.layRow(y, 0, 0, 1);
            y.row(1, 1);
            y.deeds(1, 1);
            y.read(0);
            x.order(1, 1);
            Edges.due("digest", x.digest(), y.digest());
        });
        Edges.test(2, "ROWS 0 .. 5 are rows of 0 to 40 ints,", () -> {
            LastPage x = new LastPage();
            for (int r = 0; r < 6; r++) Edges.due("row(" + r + ", 40)", x.row(r, 40), 40);
            Edges.due("all at once", x.count(4), 6);
            for (int r = 0; r < 6; r++) x.lay(r, 39, r + 1);
            for (int r = 0; r < 6; r++) {
                Edges.dueTold("at(" + r + ", 0)", x, x.at(r, 0), 1, 0);
                Edges.dueTold("at(" + r + ", 39)", x, x.at(r, 39), 1, r + 1);
            }
        });
    }

    private static void rowRefused() {
        Edges.test(2, "BAD:", () -> Edges.bounds(Edges::rich, "ROW", 0, 5, (x, r) -> x.row(r, 3)));
        Edges.test(2, "also n above 40;", () -> {
            for (int r : new int[] {1, 2, 3, 5}) {
                Edges.bad(Edges::rich, "41 for ROW " + r, x -> x.row(r, 41));
                Edges.bad(Edges::rich, "the greatest for ROW " + r, x -> x.row(r, GREATEST));
            }
        });
        Edges.test(2, "SIZE: below 0.", () -> {
            for (int r : new int[] {1, 2, 3, 5}) {
                Edges.found(Edges::rich, "-1 for ROW " + r, x -> x.row(r, -1), Edges.SIZE);
                Edges.found(Edges::rich, "the least for ROW " + r, x -> x.row(r, LEAST), Edges.SIZE);
            }
        });
        Edges.test(2, "Refused is, the first of these that fits, in this order:", () -> {
            Edges.bad(Edges::rich, "BAD ahead of SIZE", x -> x.row(6, -1));
            Edges.bad(Edges::rich, "BAD ahead of SIZE", x -> x.row(-1, LEAST));
        });
    }

    private static void lay() {
        Edges.test(3, "Place i of a ROW is v: what it was, told by asked(): 1.", () -> {
            LastPage x = new LastPage();
            x.row(5, 40);
            int[] ends = {0, 39};
            for (int i : ends) {
                Edges.dueTold("the least at " + i, x, x.lay(5, i, LEAST), 1, 0);
                Edges.dueTold("the greatest at " + i, x, x.lay(5, i, GREATEST), 1, LEAST);
                Edges.dueTold("0 at " + i, x, x.lay(5, i, 0), 1, GREATEST);
                Edges.dueTold("at(5, " + i + ")", x, x.at(5, i), 1, 0);
            }
        });
        Edges.test(3, "BAD;", () -> Edges.bounds(Edges::rich, "ROW", 0, 5, (x, r) -> x.lay(r, 0, 9)));
        Edges.test(3, "NOTHING;", () -> {
            Edges.found(Edges::rich, "a missing one", x -> x.lay(5, 0, 9), Edges.NOTHING);
            Edges.found(Edges::rich, "NOTHING ahead of BEYOND", x -> x.lay(4, -1, 9), Edges.NOTHING);
            Edges.found(x -> {
                Edges.rich(x);
                x.tear(1);
            }, "a torn one", x -> x.lay(1, 0, 9), Edges.NOTHING);
        });
        Edges.test(3, "BEYOND.", () -> {
            for (int i : new int[] {LEAST, -1, 4, 40, GREATEST}) {
                Edges.found(Edges::rich, "place " + i + " of 4", x -> x.lay(1, i, 9), Edges.BEYOND);
            }
            Edges.found(Edges::rich, "place 40 of a full one", x -> x.lay(3, 40, 9), Edges.BEYOND);
            Edges.found(Edges::rich, "place 0 of an empty one", x -> x.lay(2, 0, 9), Edges.BEYOND);
        });
    }

    private static void at() {
        Edges.test(4, "Place i of a ROW, told by asked(): 1.", () -> {
            LastPage x = withRow(LEAST, 4, GREATEST);
            for (int again = 0; again < 2; again++) {
                Edges.dueTold("the first", x, x.at(0, 0), 1, LEAST);
                Edges.dueTold("the last", x, x.at(0, 2), 1, GREATEST);
            }
        });
        Edges.test(4, "BAD;", () -> Edges.bounds(Edges::rich, "ROW", 0, 5, (x, r) -> x.at(r, 0)));
        Edges.test(4, "NOTHING;", () -> {
            Edges.found(Edges::rich, "a missing one", x -> x.at(5, 0), Edges.NOTHING);
            Edges.found(Edges::rich, "NOTHING ahead of BEYOND", x -> x.at(4, -1), Edges.NOTHING);
        });
        Edges.test(4, "BEYOND.", () -> {
            for (int i : new int[] {LEAST, -1, 4, 40, GREATEST}) {
                Edges.found(Edges::rich, "place " + i + " of 4", x -> x.at(1, i), Edges.BEYOND);
            }
            Edges.found(Edges::rich, "place 40 of a full one", x -> x.at(3, 40), Edges.BEYOND);
            Edges.found(Edges::rich, "place 0 of an empty one", x -> x.at(2, 0), Edges.BEYOND);
        });
    }

    private static void tear() {
        Edges.test(5, "A ROW is missing: 1.", () -> {
            LastPage x = new LastPage();
            for (int r = 0; r < 6; r++) x.row(r, 40);
            for (int r = 0; r < 6; r++) {
                Edges.due("tear(" + r + ")", x.tear(r), 1);
                Edges.due("rows left", x.count(4), 5 - r);
                Edges.dueFinding("at(" + r + ", 0)", x, x.at(r, 0), Edges.NOTHING);
            }
            x.row(0, 0);
            Edges.due("an empty one", x.tear(0), 1);
            Edges.due("none left", x.count(4), 0);
        });
        Edges.test(5, "BAD;", () -> Edges.bounds(Edges::rich, "ROW", 0, 5, (x, r) -> x.tear(r)));
        Edges.test(5, "NOTHING.", () -> {
            Edges.found(Edges::rich, "a missing one", x -> x.tear(5), Edges.NOTHING);
            Edges.found(x -> {
                Edges.rich(x);
                x.tear(1);
            }, "a torn one", x -> x.tear(1), Edges.NOTHING);
        });
    }

    private static void copy() {
        Edges.test(6, "n places of a ROW, from one on, come to those of another one", () -> {
            LastPage x = withRow(1, 2, 3, 4);
            Checks.layRow(x, 1, 9, 9, 9);
            Edges.due("none", x.copy(0, 0, 1, 0, 0), 1);
            Edges.due("none, at both ends", x.copy(0, 4, 1, 3, 0), 1);
            Edges.dueRow("none", x, 1, 9, 9, 9);
            Edges.due("the last to the last", x.copy(0, 3, 1, 2, 1), 1);
            Edges.dueRow("the last to the last", x, 1, 9, 9, 4);
            Edges.due("as many as there are", x.copy(0, 1, 1, 0, 3), 1);
            Edges.dueRow("as many as there are", x, 1, 2, 3, 4);
            Edges.dueRow("from it nothing goes", x, 0, 1, 2, 3, 4);
        });
        Edges.test(6, "from one on", () -> {
            LastPage x = new LastPage();
            x.row(0, 40);
            x.row(5, 40);
            for (int i = 0; i < 40; i++) x.lay(0, i, i + 1);
            Edges.due("all 40", x.copy(0, 0, 5, 0, 40), 1);
            Edges.dueTold("the first", x, x.at(5, 0), 1, 1);
            Edges.dueTold("the last", x, x.at(5, 39), 1, 40);
            x.row(1, 0);
            Edges.due("none of an empty one", x.copy(1, 0, 1, 0, 0), 1);
        });
        Edges.test(6, "(perhaps itself)", () -> {
            LastPage x = withRow(1, 2, 3, 4);
            Edges.due("to where it is", x.copy(0, 0, 0, 0, 4), 1);
            Edges.dueRow("to where it is", x, 0, 1, 2, 3, 4);
            Edges.due("apart", x.copy(0, 0, 0, 2, 2), 1);
            Edges.dueRow("apart", x, 0, 1, 2, 1, 2);
        });
        Edges.test(6, ", as if taken ahead: 1.", () -> {
            LastPage x = withRow(1, 2, 3, 4, 5);
            Edges.due("a place on", x.copy(0, 0, 0, 1, 4), 1);
            Edges.dueRow("a place on", x, 0, 1, 1, 2, 3, 4);
            LastPage y = withRow(1, 2, 3, 4, 5);
            Edges.due("a place back", y.copy(0, 1, 0, 0, 4), 1);
            Edges.dueRow("a place back", y, 0, 2, 3, 4, 5, 5);
        });
    }

    private static void copyRefused() {
        Edges.test(6, "BAD;", () -> {
            Edges.bounds(Edges::rich, "from ROW", 0, 5, (x, r) -> x.copy(r, 0, 1, 0, 1));
            Edges.bounds(Edges::rich, "to ROW", 0, 5, (x, r) -> x.copy(1, 0, r, 0, 1));
            Edges.bad(Edges::rich, "BAD ahead of SIZE", x -> x.copy(6, 0, 1, 0, -1));
            Edges.bad(Edges::rich, "BAD ahead of NOTHING", x -> x.copy(5, 0, 6, 0, 1));
        });
        Edges.test(6, "SIZE: n below 0;", () -> {
            for (int n : new int[] {-1, LEAST}) {
                Edges.found(Edges::rich, "of " + n, x -> x.copy(0, 0, 1, 0, n), Edges.SIZE);
                Edges.found(Edges::rich, "SIZE ahead of NOTHING", x -> x.copy(0, 0, 5, 0, n), Edges.SIZE);
                Edges.found(Edges::rich, "SIZE ahead of BEYOND", x -> x.copy(0, 9, 1, -9, n), Edges.SIZE);
            }
        });
        Edges.test(6, "NOTHING: either;", () -> {
            Edges.found(Edges::rich, "from a missing one", x -> x.copy(5, 0, 1, 0, 1), Edges.NOTHING);
            Edges.found(Edges::rich, "to a missing one", x -> x.copy(1, 0, 5, 0, 1), Edges.NOTHING);
            Edges.found(Edges::rich, "none of a missing one", x -> x.copy(4, 0, 5, 0, 0), Edges.NOTHING);
            Edges.found(Edges::rich, "NOTHING ahead of BEYOND", x -> x.copy(1, 9, 5, 0, 1), Edges.NOTHING);
        });
        Edges.test(6, "BEYOND: not so many there.", () -> {
            int[][] from = {{-1, 1}, {LEAST, 1}, {4, 1}, {3, 2}, {0, 5}, {1, GREATEST}, {GREATEST, 1}, {GREATEST, GREATEST},
                {-1, 0}, {5, 0}, {GREATEST, 0}, {LEAST, 0}};
            for (int[] f : from) {
                String what = f[1] + " at " + f[0] + " of 4";
                Edges.found(Edges::rich, "from " + what, x -> x.copy(1, f[0], 3, 0, f[1]), Edges.BEYOND);
                Edges.found(Edges::rich, "to " + what, x -> x.copy(3, 0, 1, f[0], f[1]), Edges.BEYOND);
            }
            Edges.found(Edges::rich, "41 of a full one", x -> x.copy(3, 0, 3, 0, 41), Edges.BEYOND);
            Edges.found(Edges::rich, "one of an empty one", x -> x.copy(2, 0, 1, 0, 1), Edges.BEYOND);
        });
    }

    private static void dueMean(int want, int... ints) {
        LastPage x = withRow(ints);
        Edges.dueTold("of " + java.util.Arrays.toString(ints), x, x.mean(0), 1, want);
        Edges.dueRow("the ROW stays", x, 0, ints);
    }

    private static int[] forty(int v) {
        int[] ints = new int[40];
        java.util.Arrays.fill(ints, v);
        return ints;
    }

    private static void mean() {
        Edges.test(7, "The mean of a ROW's ints", () -> {
            dueMean(0, 0);
            dueMean(LEAST, LEAST);
            dueMean(GREATEST, forty(GREATEST));
            dueMean(LEAST, forty(LEAST));
            dueMean(GREATEST, GREATEST, GREATEST);
            dueMean(LEAST, LEAST, LEAST, LEAST);
            dueMean(0, GREATEST, -GREATEST);
        });
        Edges.test(7, ", cut, told by asked(): 1.", () -> {
            dueMean(0, 1, 0);
            dueMean(0, -1, 0);
            dueMean(1, 1, 2);
            dueMean(-1, -1, -2);
            dueMean(1, 1, 2, 2);
            dueMean(-1, -1, -2, -2);
            dueMean(0, LEAST, GREATEST);
            dueMean(GREATEST - 1, GREATEST, GREATEST - 1);
        });
    }

    private static void meanRefused() {
        Edges.test(7, "BAD;", () -> Edges.bounds(Edges::rich, "ROW", 0, 5, (x, r) -> x.mean(r)));
        Edges.test(7, "NOTHING;", () -> Edges.found(Edges::rich, "a missing one", x -> x.mean(5), Edges.NOTHING));
        Edges.test(7, "NOUGHT.", () -> Edges.found(Edges::rich, "an empty one", x -> x.mean(2), Edges.NOUGHT));
        Edges.test(7, "4 NOUGHT (shared among none)", () -> {
            LastPage x = withRow(7);
            x.mean(0);
            x.row(0, 0);
            Edges.dueFinding("none left", x, x.mean(0), Edges.NOUGHT);
            Edges.due("told before", x.asked(), 7);
        });
    }
}
