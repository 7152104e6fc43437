/** Edges of the promises 37 and 38: orders of reading. */
final class OrdersEdges {
    private OrdersEdges() {
    }

    static void all() {
        best();
        bestRefused();
        front();
    }

    private static void dueBest(String signs, int want, int... order) {
        for (int r : new int[] {0, 3, 5}) {
            LastPage x = Checks.bookOf(signs);
            x.row(3, 40);
            x.lay(3, 0, 7);
            x.row(5, 0);
            int before = x.all();
            Edges.due("best(" + r + ") of " + signs, x.best(r), want);
            Edges.dueRow("best of " + signs, x, r, order);
            Edges.due("still read as before", x.all(), before);
            Edges.due("read so", x.read(r), 1);
            Edges.due("all() by it", x.all(), want);
        }
    }

    private static void best() {
        Edges.test(37, "The order of reading (PAGES; the first such row) by which all() is least,", () -> {
            dueBest("p15", 30, 0);
            dueBest("p0p0p0p0p0p0", 0, 0, 1, 2, 3, 4, 5);
            dueBest("p15 p0p0p0p0p0", 30, 1, 2, 3, 4, 5, 0);
            dueBest("p15 p0p0p0p0 d50", 0, 1, 2, 3, 4, 5, 0);
            dueBest("d50 p15", 0, 0, 1);
            dueBest("p15 d50", 0, 1, 0);
            // A PAGE without words in front of the others, of the two alike ones the first.
            dueBest("p16 p15 p0", 60, 2, 0, 1);
        });
        Edges.test(37, "by which all() is least", () -> {
            LastPage x = Checks.bookOf("p15 p0");
            x.add(1, 64);
            x.rip();
            x.add(0, 64);
            Edges.due("of the BOOK as it is now", x.best(0), 30);
            Edges.dueRow("of the BOOK as it is now", x, 0, 1, 2, 0);
            x.keep(0);
            x.rip();
            x.reverse(0, 0);
            Edges.due("a VERDICT that is another one now", x.best(0), 0);
            Edges.dueRow("a VERDICT that is another one now", x, 0, 0, 1);
            x.on(0);
            Edges.due("as it was kept", x.best(0), 30);
        });
        Edges.test(37, "comes to a ROW (anew): all() by it.", () -> {
            LastPage x = Checks.bookOf("p0 p15");
            Checks.layRow(x, 0, 9, 9, 9);
            Edges.due("to a longer one", x.best(0), 30);
            Edges.dueRow("to a longer one", x, 0, 0, 1);
            Edges.due("to a missing one", x.best(5), 30);
            Edges.due("it is there", x.count(4), 2);
        });
    }

    private static void bestRefused() {
        Edges.test(37, "BAD;", () -> {
            Edges.bounds(Edges::rich, "ROW", 0, 5, (x, r) -> x.best(r));
            Edges.bad(Edges::torn, "BAD ahead of STATE", x -> x.best(6));
            Edges.bad(Edges::bare, "BAD ahead of STATE", x -> x.best(-1));
        });
        Edges.test(37, "STATE: no PAGES.", () -> {
            for (int r : new int[] {0, 2, 5}) {
                Edges.refused(Edges::torn, "to ROW " + r, x -> x.best(r), Edges.STATE, 0);
                Edges.refused(Edges::bare, "to ROW " + r, x -> x.best(r), Edges.STATE, 0);
            }
        });
    }

    private static void dueFront(String signs, int front, int end) {
        LastPage x = Checks.bookOf(signs);
        for (int again = 0; again < 2; again++) {
            Edges.dueTold("front() of '" + signs + "'", x, x.front(), front, end);
            if (x.count(0) > 1) x.swap(0, 1);
        }
    }

    private static void front() {
        Edges.test(38, "all(), if read from the front (PAGE 0 on DAY 0, ..); if read from the end by asked().", () -> {
            dueFront("", 0, 0);
            dueFront("p15", 30, 30);
            dueFront("p15 p0", 60, 30);
            dueFront("d50 p15", 0, 30);
            dueFront("p15p0p0p0p0p0", 180, 30);
            dueFront("p0p0p0p0p0p15", 30, 180);
            LastPage x = Checks.bookOf("p0 p15");
            x.front();
            Edges.due("still read as before", x.all(), 60);
            x.add(0, 1);
            Edges.dueTold("of the BOOK as it is now", x, x.front(), 60, 60);
            x.reverse(1, 0);
            Edges.dueTold("of the BOOK as it is now", x, x.front(), 0, 0);
        });
    }
}
