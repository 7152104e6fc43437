/** Edges of the promises 25 to 29: cases. */
final class CasesEdges {
    private CasesEdges() {
    }

    static void all() {
        verdict();
        weight();
        verdictRefused();
        judge();
        judgeRefused();
        odds();
        waits();
        allWaiting();
    }

    private static void dueVerdict(LastPage x, int marks, int day, int want, int times) {
        Edges.dueTold("verdict(" + marks + ", " + day + ")", x, x.verdict(marks, day), want, times);
    }

    private static void verdict() {
        Edges.test(25, "The VERDICT of a CASE on a DAY, if it is SURE; by how many MEANINGS it is 1 by asked().", () -> {
            LastPage x = Checks.bookOf("p15 d53 d64");
            dueVerdict(x, 31, 0, 0, 0);
            dueVerdict(x, 31, 1, 0, 0);
            dueVerdict(x, 31, 2, 1, 1);
            dueVerdict(x, 8, 2, 1, 1);
            dueVerdict(x, 23, 20, 0, 0);
            dueVerdict(Checks.bookOf("p1"), 0, 0, 1, 25);
            dueVerdict(Checks.bookOf("p1 d50"), 0, 1, 1, 5);
            dueVerdict(Checks.bookOf("p0"), 31, 20, 0, 0);
        });
        Edges.test(25, "NONE: it WAITS.", () -> {
            LastPage x = Checks.bookOf("p156");
            dueVerdict(x, 0, 0, 0, 0);
            dueVerdict(x, 1, 0, Edges.NONE, 1);
            dueVerdict(x, 15, 0, Edges.NONE, 16);
            dueVerdict(x, 31, 0, 1, 25);
            LastPage y = Checks.bookOf("p1 e056");
            dueVerdict(y, 1, 1, Edges.NONE, 24);
            dueVerdict(y, 0, 1, 1, 25);
        });
        Edges.test(25, "(asked() also by NONE.)", () -> {
            LastPage x = Checks.bookOf("p15");
            dueVerdict(x, 31, 0, 1, 25);
            dueVerdict(x, 16, 0, Edges.NONE, 5);
            dueVerdict(x, 30, 0, Edges.NONE, 20);
        });
        Edges.test(25, "It is SURE, if it is the same by each MEANING that can be on that DAY; else it WAITS.", () -> {
            LastPage x = Checks.bookOf("d50 p15");
            dueVerdict(x, 1, 0, Edges.NONE, 5);
            dueVerdict(x, 1, 1, 1, 5);
            dueVerdict(x, 30, 0, Edges.NONE, 20);
            dueVerdict(x, 30, 1, 0, 0);
        });
        Edges.test(25, "A CASE is a set of FACTS. By a MEANING a WORD is SO in it, if the FACT is.", () -> {
            for (int fact = 0; fact < 5; fact++) {
                LastPage x = Checks.bookOf("p15 d5" + fact);
                for (int marks = 0; marks < 32; marks++) {
                    int so = marks >> fact & 1;
                    dueVerdict(x, marks, 1, so, 5 * so);
                }
            }
        });
        Edges.test(25, "A PAGE (no DEFINITION) fits a CASE, if all its WORDS are SO.", () -> {
            LastPage x = Checks.bookOf("p101234");
            for (int marks = 0; marks < 31; marks++) dueVerdict(x, marks, 0, 0, 0);
            dueVerdict(x, 31, 0, 1, 25);
            LastPage y = Checks.bookOf("p1");
            for (int marks = 0; marks < 32; marks++) dueVerdict(y, marks, 0, 1, 25);
        });
    }

    private static void dueJudge(String signs, int marks, int day, int want) {
        Edges.due("judge(" + marks + ", 0, " + day + ") of " + signs, Checks.bookOf(signs).judge(marks, 0, day), want);
    }

    private static void weight() {
        Edges.test(25, "The VERDICT of a CASE, by a MEANING, on a DAY: that of the PAGE that BINDS and fits and weighs most", () -> {
            dueJudge("p10 p101", 3, 1, 1);
            dueJudge("p10 p101", 1, 1, 0);
            dueJudge("p101 p1", 3, 0, 1);
            dueJudge("s1 p0", 0, 3, 0);
            dueJudge("s1 p0", 0, 4, 1);
        });
        Edges.test(25, "(1 for each WORD; an EXCEPTION, a STRUCK one 10 more;", () -> {
            dueJudge("p10123456 e0", 31, 1, 1);
            dueJudge("p10123456 s0", 31, 1, 1);
            dueJudge("o210123456 e0 p0", 31, 2, 1);
            dueJudge("e0 s00", 1, 1, 1);
            dueJudge("s0 e00", 1, 1, 1);
            dueJudge("p00 p005", 1, 1, 1);
            dueJudge("p0 i006", 1, 1, 1);
        });
        Edges.test(25, "of alike ones the least number); 0, if none does.", () -> {
            dueJudge("p1 p1", 0, 1, 0);
            dueJudge("p10 p15", 1, 1, 0);
            dueJudge("e1 s1", 0, 1, 0);
            dueJudge("s1 e1", 0, 1, 0);
            dueJudge("p0 o00 i10", 0, 2, 0);
            dueJudge("p1p1p1p1p1p1", 0, 5, 0);
            dueJudge("p1p1p1p1p1p1", 0, 4, 1);
            dueVerdict(new LastPage(), 31, 20, 0, 0);
            dueVerdict(Checks.bookOf("d50"), 31, 0, 0, 0);
            dueVerdict(Checks.bookOf("p10"), 30, 0, 0, 0);
        });
    }

    private static void verdictRefused() {
        Edges.test(25, "BAD.", () -> {
            Edges.bounds(Edges::rich, "CASE", 0, 31, (x, marks) -> x.verdict(marks, 0));
            Edges.bounds(Edges::rich, "DAY", 0, 20, (x, day) -> x.verdict(0, day));
            Edges.bounds(Edges::bare, "CASE", 0, 31, (x, marks) -> x.verdict(marks, 20));
        });
    }

    private static void judge() {
        Edges.test(26, "By which PAGE a CASE is judged by a MEANING (10 times the FACT of 5, and that of 6), on a DAY.", () -> {
            LastPage x = Checks.bookOf("p15 p16");
            for (int five = 0; five < 5; five++) {
                for (int six = 0; six < 5; six++) {
                    int meaning = 10 * five + six;
                    Edges.due("WORD 5 is SO by " + meaning, x.judge(1 << five, meaning, 1), 0);
                    Edges.due("one not read by " + meaning, x.judge(1 << six, meaning, 0), 1);
                    Edges.due("neither by " + meaning, x.judge(0, meaning, 20), Edges.NONE);
                }
            }
            Edges.due("the last of six", Checks.bookOf("p11p11p11p11p11p1").judge(0, 44, 20), 5);
        });
        Edges.test(26, "MEANINGS go by that of 5, then of 6.", () -> {
            LastPage x = Checks.bookOf("p15 p16");
            Edges.due("5 means 0, 6 means 4: by 5", x.judge(1, 4, 1), 0);
            Edges.due("5 means 0, 6 means 4: by 6", x.judge(16, 4, 1), 1);
            Edges.due("5 means 4, 6 means 0: by 5", x.judge(16, 40, 1), 0);
            Edges.due("5 means 4, 6 means 0: by 6", x.judge(1, 40, 1), 1);
        });
        Edges.test(26, "NONE: by none.", () -> {
            Edges.due("no PAGES", new LastPage().judge(31, 44, 20), Edges.NONE);
            Edges.due("a DEFINITION", Checks.bookOf("d50").judge(31, 0, 0), Edges.NONE);
            Edges.due("none fits", Checks.bookOf("p10123456").judge(15, 0, 0), Edges.NONE);
            Edges.due("none BINDS", Checks.bookOf("o00").judge(31, 0, 0), Edges.NONE);
            Edges.due("on the last DAY of a STRUCK one", Checks.bookOf("s1").judge(0, 0, 2), 0);
            Edges.due("a DAY later", Checks.bookOf("s1").judge(0, 0, 3), Edges.NONE);
        });
    }

    private static void judgeRefused() {
        Edges.test(26, "BAD:", () -> {
            Edges.bounds(Edges::rich, "CASE", 0, 31, (x, marks) -> x.judge(marks, 4, 0));
            Edges.bounds(Edges::rich, "DAY", 0, 20, (x, day) -> x.judge(0, 4, day));
            for (int meaning = -60; meaning <= 120; meaning++) {
                boolean is = meaning >= 0 && meaning / 10 < 5 && meaning % 10 < 5;
                long got = new LastPage().judge(0, meaning, 0);
                Edges.due("MEANING " + meaning, got, is ? Edges.NONE : Edges.BAD);
            }
            for (int meaning : new int[] {Edges.LEAST, -1, 5, 15, 45, 50, 100, Edges.GREATEST}) {
                Edges.bad(Edges::rich, "MEANING " + meaning, x -> x.judge(0, meaning, 0));
            }
        });
        Edges.test(26, "also a MEANING that can't be on that DAY.", () -> {
            LastPage y = Checks.bookOf("p1 d64 d50");
            for (int five = 0; five < 5; five++) {
                for (int six = 0; six < 5; six++) {
                    int meaning = 10 * five + six;
                    Edges.due(meaning + " on DAY 0", y.judge(0, meaning, 0), five == 0 ? Edges.NONE : Edges.BAD);
                    boolean can = five == 0 && six == 4;
                    Edges.due(meaning + " on DAY 1", y.judge(0, meaning, 1), can ? Edges.NONE : Edges.BAD);
                    Edges.due(meaning + " on DAY 20", y.judge(0, meaning, 20), can ? 0 : Edges.BAD);
                }
            }
            Edges.bad(Edges::rich, "6 is told", x -> x.judge(0, 3, 20));
        });
    }

    private static void dueOdds(String signs, int marks, int day, int upper, int lower) {
        LastPage x = Checks.bookOf(signs);
        String what = "odds(" + marks + ", " + day + ") of " + signs;
        Edges.due(what, x.odds(marks, day), 1);
        Edges.due(what + ", upper()", x.upper(), upper);
        Edges.due(what + ", lower()", x.lower(), lower);
    }

    private static void odds() {
        Edges.test(27, "What part of MEANINGS gives a CASE 1 on a DAY: 1.", () -> {
            int[] cases = {1, 3, 7, 15};
            for (int k = 0; k < 4; k++) {
                dueOdds("p156", cases[k], 0, (k + 1) * (k + 1), 25);
                dueOdds("p15", cases[k], 20, k + 1, 5);
                dueOdds("p16 d50", cases[k], 1, k + 1, 5);
            }
            dueOdds("p1 e056", 1, 1, 24, 25);
        });
        Edges.test(27, "Fractions are told by upper(), lower(), in lowest terms, the lower number above 0 (0 by 1).", () -> {
            dueOdds("", 31, 0, 0, 1);
            dueOdds("p156", 0, 0, 0, 1);
            dueOdds("p156", 31, 0, 1, 1);
            dueOdds("p16 d50", 0, 20, 0, 1);
            dueOdds("p16 d50", 31, 20, 1, 1);
            dueOdds("p16 d50 d61", 2, 20, 1, 1);
            dueOdds("p16 d50 d61", 29, 20, 0, 1);
        });
        Edges.test(27, "BAD.", () -> {
            Edges.bounds(Edges::rich, "CASE", 0, 31, (x, marks) -> x.odds(marks, 0));
            Edges.bounds(Edges::rich, "DAY", 0, 20, (x, day) -> x.odds(0, day));
        });
    }

    private static void waits() {
        Edges.test(28, "How many of all 32 CASES WAIT on a DAY; how many are SURE to be 1 by asked().", () -> {
            LastPage none = new LastPage();
            Edges.dueTold("no PAGES", none, none.waits(20), 0, 0);
            LastPage each = Checks.bookOf("p1");
            Edges.dueTold("all SURE to be 1", each, each.waits(0), 0, 32);
            LastPage most = Checks.bookOf("p15");
            Edges.dueTold("all but two WAIT", most, most.waits(20), 30, 1);
            LastPage zero = Checks.bookOf("p05");
            Edges.dueTold("all SURE to be 0", zero, zero.waits(0), 0, 0);
            LastPage last = Checks.bookOf("p101234");
            Edges.dueTold("the last CASE alone", last, last.waits(0), 0, 1);
            LastPage first = Checks.bookOf("p1 p00 p01 p02 p03 p04");
            Edges.dueTold("the first CASE alone", first, first.waits(5), 0, 1);
        });
        Edges.test(28, "BAD.", () -> {
            Edges.bounds(Edges::rich, "DAY", 0, 20, (x, day) -> x.waits(day));
            Edges.bounds(Edges::bare, "DAY", 0, 20, (x, day) -> x.waits(day));
        });
    }

    private static void dueAll(String signs, int want) {
        Edges.due("all() of '" + signs + "'", Checks.bookOf(signs).all(), want);
    }

    private static void allWaiting() {
        Edges.test(29, "How many CASES WAIT, on all DAYS on which PAGES are read together.", () -> {
            dueAll("", 0);
            dueAll("p15", 30);
            dueAll("p15p0p0p0p0p0", 30);
            dueAll("p0p0p0p0p0p15", 180);
            dueAll("d50p0p0p0p0p15", 150);
            dueAll("p15d50", 0);
            dueAll("s15", 30);
            dueAll("p0p0p0p0s15", 90);
        });
    }
}
