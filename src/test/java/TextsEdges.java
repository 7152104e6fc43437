/** Edges of the promises 8 to 11: texts, faults, books by them. */
final class TextsEdges {
    private static final int LEAST = Edges.LEAST, GREATEST = Edges.GREATEST;
    private static final String LETTERS = "peodsi", OUTSIDE = LETTERS + " ";
    private static final String SIX = "p0e0s0o00i00d50";

    private TextsEdges() {
    }

    static void all() {
        text();
        textRefused();
        put();
        putRefused();
        faultOutside();
        faultInside();
        faultAtEnd();
        faultRefused();
        book();
        bookRefused();
    }

    private static void text() {
        Edges.test(8, "A TEXT is there with n blanks: n.", () -> {
            for (int n : new int[] {0, 1, 79, 80}) {
                LastPage x = new LastPage();
                Edges.due("text(1, " + n + ")", x.text(1, n), n);
                Edges.due("count(5)", x.count(5), 1);
                for (int i = 0; i < n; i++) Edges.due("a blank at " + i, x.put(1, i, 65), 1032);
                Edges.dueFinding("its end", x, x.put(1, n, 65), Edges.BEYOND);
                Edges.due("anew", x.text(1, n), n);
                for (int i = 0; i < n; i++) Edges.due("a blank again at " + i, x.put(1, i, 65), 1032);
            }
        });
        Edges.test(8, "with n blanks", () -> {
            LastPage x = new LastPage();
            Checks.lay(x, 0, "abcd");
            Edges.due("shorter", x.text(0, 2), 2);
            Edges.dueFinding("shorter", x, x.put(0, 2, 65), Edges.BEYOND);
            Edges.due("longer", x.text(0, 4), 4);
            for (int i = 0; i < 4; i++) Edges.due("a blank at " + i, x.put(0, i, 65), 1032);
        });
        Edges.test(8, "A TEXT is there with n", () -> {
            // What stood behind the end of a TEXT that is shorter now is no part of it.
            LastPage x = new LastPage();
            Checks.lay(x, 0, "p0p0xxxx");
            x.text(0, 2);
            Edges.due("fault of blanks", x.fault(0), Edges.NONE);
            x.put(0, 0, 'p');
            x.put(0, 1, '1');
            Edges.due("fault", x.fault(0), Edges.NONE);
            Edges.due("book", x.book(0), 1);
            Checks.lay(x, 0, "p01");
            x.text(0, 1);
            x.put(0, 0, 'p');
            Edges.due("it ends where a figure is due", x.fault(0), 1);
        });
        Edges.test(8, "TEXTS 0 .. 3 rows of 0 to 80 bytes,", () -> {
            LastPage x = new LastPage();
            for (int t = 0; t < 4; t++) Edges.due("text(" + t + ", 80)", x.text(t, 80), 80);
            Edges.due("all at once", x.count(5), 4);
            for (int t = 0; t < 4; t++) Edges.due("put", x.put(t, 79, t + 1), 1032);
            for (int t = 0; t < 4; t++) Edges.due("each for itself", x.put(t, 79, 0), 1001 + t);
        });
    }

    private static void textRefused() {
        Edges.test(8, "BAD:", () -> Edges.bounds(Edges::rich, "TEXT", 0, 3, (x, t) -> x.text(t, 3)));
        Edges.test(8, "also n above 80;", () -> {
            for (int t : new int[] {0, 2, 3}) {
                Edges.bad(Edges::rich, "81 for TEXT " + t, x -> x.text(t, 81));
                Edges.bad(Edges::rich, "the greatest for TEXT " + t, x -> x.text(t, GREATEST));
            }
        });
        Edges.test(8, "SIZE: below 0.", () -> {
            for (int t : new int[] {0, 2, 3}) {
                Edges.found(Edges::rich, "-1 for TEXT " + t, x -> x.text(t, -1), Edges.SIZE);
                Edges.found(Edges::rich, "the least for TEXT " + t, x -> x.text(t, LEAST), Edges.SIZE);
            }
            Edges.bad(Edges::rich, "BAD ahead of SIZE", x -> x.text(4, -1));
        });
    }

    private static void put() {
        Edges.test(9, "Byte i of a TEXT is v", () -> {
            LastPage x = new LastPage();
            x.text(3, 80);
            Edges.due("the first", x.put(3, 0, 1), 1032);
            Edges.due("the last", x.put(3, 79, 2), 1032);
            Edges.due("the first again", x.put(3, 0, 3), 1001);
            Edges.due("the last again", x.put(3, 79, 4), 1002);
            Edges.due("its neighbour", x.put(3, 1, 5), 1032);
            Edges.due("its neighbour", x.put(3, 78, 5), 1032);
            Edges.due("asked() is not told", x.asked(), 0);
        });
        Edges.test(9, ", cut to a byte: what it was, and 1000 more.", () -> {
            int[][] cut = {{0, 0}, {127, 127}, {128, -128}, {129, -127}, {255, -1}, {256, 0}, {257, 1}, {383, 127},
                {384, -128}, {-1, -1}, {-128, -128}, {-129, 127}, {-256, 0}, {GREATEST, -1}, {LEAST, 0}, {LEAST + 127, 127}};
            LastPage x = new LastPage();
            x.text(0, 1);
            int was = 32;
            for (int[] c : cut) {
                Edges.due("put(0, 0, " + c[0] + ")", x.put(0, 0, c[0]), was + 1000);
                was = c[1];
            }
            Edges.due("the last", x.put(0, 0, 32), was + 1000);
        });
    }

    private static void putRefused() {
        Edges.test(9, "BAD;", () -> Edges.bounds(Edges::rich, "TEXT", 0, 3, (x, t) -> x.put(t, 0, 65)));
        Edges.test(9, "NOTHING;", () -> {
            Edges.found(Edges::rich, "a missing one", x -> x.put(3, 0, 65), Edges.NOTHING);
            Edges.found(Edges::rich, "NOTHING ahead of BEYOND", x -> x.put(3, -1, 65), Edges.NOTHING);
        });
        Edges.test(9, "BEYOND.", () -> {
            for (int i : new int[] {LEAST, -1, 4, 80, GREATEST}) {
                Edges.found(Edges::rich, "place " + i + " of 4", x -> x.put(1, i, 65), Edges.BEYOND);
            }
            Edges.found(Edges::rich, "place 0 of an empty one", x -> x.put(2, 0, 65), Edges.BEYOND);
            Edges.found(x -> x.text(0, 80), "place 80 of a full one", x -> x.put(0, 80, 65), Edges.BEYOND);
        });
    }

    /** Of all 256 bytes those by which a TEXT that begins so goes on; each other one is a FAULT at its place. */
    private static void dueGoesOn(String ahead, String signs) {
        LastPage x = null;
        for (int b = 0; b < 256; b++) {
            if (b % 64 == 0) {
                x = new LastPage();
                Checks.lay(x, 0, ahead + " ");
            }
            x.put(0, ahead.length(), b);
            boolean stops = x.fault(0) == ahead.length();
            Edges.due("'" + ahead + "' goes on by " + b, stops ? 0 : 1, signs.indexOf((char) b) >= 0 ? 1 : 0);
        }
    }

    private static void dueFault(String signs, int want) {
        LastPage x = new LastPage();
        Checks.lay(x, 3, signs);
        Edges.due("of '" + signs + "'", x.fault(3), want);
    }

    private static void faultOutside() {
        Edges.test(10, "blanks (32) ahead, between, behind as many as wanted, none within items;", () -> {
            dueFault(" ".repeat(80), Edges.NONE);
            dueFault(" ".repeat(78) + "p0", Edges.NONE);
            dueFault("p0" + " ".repeat(78), Edges.NONE);
            dueFault("p0" + " ".repeat(76) + "p0", Edges.NONE);
            dueFault("p0e1d64", Edges.NONE);
            dueFault("p 0", 1);
            dueFault("o 00", 1);
            dueFault("o0 0", 2);
            dueFault("d 50", 1);
            dueFault("d5 0", 2);
            dueFault("p0 1", 3);
        });
        Edges.test(10, "items are PAGES 0, 1, .. (6 at most; as they come), by letter:", () -> {
            for (String ahead : new String[] {"", " ", "   ", "p0 ", "d50", "p06", "p10123456", "o006", "i516 "}) {
                dueGoesOn(ahead, OUTSIDE);
            }
        });
        Edges.test(10, "KINDS of PAGES and letters: 0 PAGE (p, 112), 1 EXCEPTION (e, 101; a PAGE), 2 POINTER (o, 111; a PAGE),", () -> {
            for (int sign : new int[] {112, 101, 111}) dueFault("" + (char) sign, 1);
            for (char sign : "PEOnqdfm".toCharArray()) dueFault(sign + "00", sign == 'd' ? 1 : 0);
        });
        Edges.test(10, "3 DEFINITION (d, 100; a PAGE), 4 STRUCK (s, 115; an EXCEPTION), 5 INDEX (i, 105; a POINTER).", () -> {
            for (int sign : new int[] {100, 115, 105}) dueFault("" + (char) sign, 1);
            for (char sign : "DSIcrthj".toCharArray()) dueFault(sign + "50", 0);
        });
    }

    private static void faultInside() {
        Edges.test(10, "a PAGE, an EXCEPTION, a STRUCK one: the VERDICT (0, 1), its WORDS", () -> {
            for (String letter : new String[] {"p", "e", "s", " p", "p0e"}) dueGoesOn(letter, "01");
            for (String item : new String[] {"p0", "e1", "s0"}) dueGoesOn(item, "0123456" + OUTSIDE);
        });
        Edges.test(10, "(figures 0 .. 6, rising, as many as there are);", () -> {
            dueGoesOn("p00", "123456" + OUTSIDE);
            dueGoesOn("e12", "3456" + OUTSIDE);
            dueGoesOn("s05", "6" + OUTSIDE);
            dueGoesOn("o003", "456" + OUTSIDE);
            dueGoesOn("i5113", "456" + OUTSIDE);
            dueGoesOn("p1012345", "6" + OUTSIDE);
            dueGoesOn("p106", OUTSIDE);
        });
        Edges.test(10, "a POINTER, an INDEX: the PAGE to which it points (0 .. 5, one figure;", () -> {
            for (String letter : new String[] {"o", "i", "p0 o", "p0i"}) dueGoesOn(letter, "012345");
        });
        Edges.test(10, "perhaps itself, or none that there is), then these;", () -> {
            for (String item : new String[] {"o0", "o5", "i0", "i5"}) dueGoesOn(item, "01");
            for (String item : new String[] {"o00", "o51", "i01", "i50"}) dueGoesOn(item, "0123456" + OUTSIDE);
            dueFault("o00", Edges.NONE);
            dueFault("i51", Edges.NONE);
        });
        Edges.test(10, "a DEFINITION: the WORD (5, 6), the FACT that it means (0 .. 4), one figure each.", () -> {
            dueGoesOn("d", "56");
            dueGoesOn("d5", "01234");
            dueGoesOn("d6", "01234");
            dueGoesOn("d54", OUTSIDE);
        });
    }

    private static void faultAtEnd() {
        Edges.test(10, "A FAULT of a TEXT;", () -> {
            dueFault("x", 0);
            dueFault(" ".repeat(79) + "x", 79);
            dueFault("p0 x p0 x", 3);
            dueFault("p2 x", 1);
        });
        Edges.test(10, "A FAULT is the first place at which it can't go on so", () -> {
            dueFault("d77", 1);
            dueFault("o62", 1);
            dueFault("p1650", 3);
            dueFault("?".repeat(80), 0);
        });
        Edges.test(10, "(a letter, a figure that is none such, not rising: its place;", () -> {
            dueFault("p0 q0", 3);
            dueFault("p07", 2);
            dueFault("p033", 3);
            dueFault("p032", 3);
        });
        Edges.test(10, "a seventh one: the letter;", () -> {
            dueGoesOn(SIX, " ");
            dueGoesOn(SIX + "  ", " ");
            dueGoesOn("p0p0p0p0p0p0", "0123456 ");
            dueFault(SIX + "p", 15);
            dueFault(SIX + " p0", 16);
            dueFault(SIX, Edges.NONE);
        });
        Edges.test(10, "the TEXT's size, if it ends where a figure is due).", () -> {
            for (String end : new String[] {"p", "e", "s", "o", "i", "d", "o0", "i5", "d5", "d6"}) {
                dueFault(end, end.length());
                dueFault("p0 " + end, 3 + end.length());
                dueFault(" ".repeat(80 - end.length()) + end, 80);
            }
        });
        Edges.test(10, "NONE: there is none.", () -> {
            dueFault("", Edges.NONE);
            dueFault(" ", Edges.NONE);
            dueFault("o510123456".repeat(6) + " ".repeat(20), Edges.NONE);
        });
    }

    private static void faultRefused() {
        Edges.test(10, "BAD;", () -> Edges.bounds(Edges::rich, "TEXT", 0, 3, (x, t) -> x.fault(t)));
        Edges.test(10, "NOTHING.", () -> Edges.found(Edges::rich, "a missing one", x -> x.fault(3), Edges.NOTHING));
    }

    private static void dueDays(String what, LastPage x, int... days) {
        for (int i = 0; i < days.length; i++) Edges.dueTold(what + ", PAGE " + i, x, x.page(i, 5), 1, days[i]);
        Edges.due(what + ", its end", x.page(days.length, 5), Edges.BAD);
    }

    private static void book() {
        Edges.test(11, "A BOOK by a TEXT (anew, read from its end;", () -> {
            LastPage x = new LastPage();
            Edges.rich(x);
            Edges.due("book(0)", x.book(0), 6);
            dueDays("anew", x, 5, 4, 3, 2, 1, 0);
            Edges.dueTold("its VERDICT anew", x, x.page(0, 1), 1, 1);
            Edges.dueTold("its VERDICT anew", x, x.page(1, 1), 1, 0);
        });
        Edges.test(11, "kept BOOKS go): how many PAGES.", () -> {
            String[] books = {"", "   ", "p0", "p0e0", "p0e0s0", "d50d61o00i00", "p0p0p0p0p0", SIX};
            int[] pages = {0, 0, 1, 2, 3, 4, 5, 6};
            for (int b = 0; b < books.length; b++) {
                LastPage x = new LastPage();
                Edges.rich(x);
                Checks.lay(x, 3, books[b]);
                Edges.due("book of '" + books[b] + "'", x.book(3), pages[b]);
                Edges.due("count(0)", x.count(0), pages[b]);
                Edges.due("kept ones go", x.count(6), 0);
                for (int k = 0; k < 3; k++) Edges.dueFinding("on(" + k + ")", x, x.on(k), Edges.NOTHING);
                Edges.due("it is as large", x.count(0), pages[b]);
            }
        });
        Edges.test(11, "A BOOK by a TEXT", () -> {
            LastPage x = Checks.bookOf("p1");
            x.put(0, 1, '0');
            Edges.dueTold("a TEXT that becomes another later", x, x.page(0, 1), 1, 1);
            x.text(0, 0);
            Edges.due("a TEXT that is empty later", x.count(0), 1);
            Edges.due("an empty one", x.book(0), 0);
        });
    }

    private static void bookRefused() {
        Edges.test(11, "BAD;", () -> Edges.bounds(Edges::rich, "TEXT", 0, 3, (x, t) -> x.book(t)));
        Edges.test(11, "NOTHING;", () -> Edges.found(Edges::rich, "a missing one", x -> x.book(3), Edges.NOTHING));
        Edges.test(11, "STATE: a FAULT.", () -> {
            String[] faulty = {"x", "p", "p0 p", "p2", "o0", "d5", "d55", "p066", SIX + "p0", SIX + "x", " ".repeat(79) + "p"};
            for (String signs : faulty) {
                Edges.refused(x -> {
                    Edges.rich(x);
                    Checks.lay(x, 3, signs);
                }, "'" + signs + "'", x -> x.book(3), Edges.STATE, 0);
            }
        });
        Edges.test(11, "(STATE behind NOTHING.)", () -> {
            Edges.found(Edges::bare, "missing at first", x -> x.book(0), Edges.NOTHING);
            Edges.refused(Edges::rich, "there, with a FAULT", x -> x.book(1), Edges.STATE, 0);
        });
    }
}
