/** Promises 25 to 29: cases. */
public final class CasesTest {
    private static final int BAD = LastPage.BAD, NONE = LastPage.NONE;

    private static void dueVerdict(LastPage x, int marks, int day, int want, int times) {
        String call = "25 verdict(" + marks + ", " + day + ")";
        Checks.due(call, x.verdict(marks, day), want);
        Checks.due(call + ", asked()", x.asked(), times);
    }

    private static void verdict() {
        LastPage x = Checks.bookOf("p15");
        dueVerdict(x, 0, 0, 0, 0);
        dueVerdict(x, 1, 0, NONE, 5);
        dueVerdict(x, 6, 0, NONE, 10);
        dueVerdict(x, 31, 20, 1, 25);
        Checks.due("25 case 32", x.verdict(32, 0), BAD);
        Checks.due("25 case -1", x.verdict(-1, 0), BAD);
        Checks.due("25 day 21", x.verdict(0, 21), BAD);
        Checks.due("25 day -1", x.verdict(0, -1), BAD);
        Checks.due("25 as it was told", x.asked(), 25);
        LastPage y = Checks.bookOf("p15 d53");
        dueVerdict(y, 8, 0, 0, 0);
        dueVerdict(y, 8, 1, 1, 5);
        dueVerdict(y, 7, 1, 0, 0);
        dueVerdict(new LastPage(), 31, 0, 0, 0);
    }

    private static void weight() {
        LastPage x = Checks.bookOf("p10 p00");
        dueVerdict(x, 1, 0, 0, 0);
        dueVerdict(x, 1, 1, 1, 25);
        dueVerdict(x, 2, 1, 0, 0);
        LastPage y = Checks.bookOf("p001234 e1 p0");
        dueVerdict(y, 31, 0, 0, 0);
        dueVerdict(y, 31, 2, 1, 25);
        LastPage z = Checks.bookOf("e0 s101 p1 p00");
        dueVerdict(z, 3, 3, 1, 25);
        dueVerdict(z, 1, 3, 0, 0);
        dueVerdict(z, 3, 5, 0, 0);
        LastPage w = Checks.bookOf("p0 o214 p02 p12");
        dueVerdict(w, 4, 0, 1, 25);
        dueVerdict(w, 4, 1, 0, 0);
        dueVerdict(w, 20, 2, 1, 25);
        dueVerdict(w, 0, 3, 0, 0);
    }

    private static void judge() {
        LastPage x = Checks.bookOf("p15 d53 p0");
        Checks.due("26 by a page without words", x.judge(0, 0, 0), 2);
        Checks.due("26 not read yet", x.judge(8, 31, 1), 2);
        Checks.due("26 judge", x.judge(8, 31, 2), 0);
        Checks.due("26 other facts", x.judge(7, 34, 2), 2);
        Checks.due("26 can't be", x.judge(8, 21, 2), BAD);
        Checks.due("26 could be on day 0", x.judge(8, 21, 0), 2);
        int[] bad = {-1, -10, 5, 9, 15, 45, 50, 100, 330, Integer.MAX_VALUE, Integer.MIN_VALUE};
        for (int meaning : bad) Checks.due("26 meaning " + meaning, x.judge(0, meaning, 0), BAD);
        Checks.due("26 case 32", x.judge(32, 0, 0), BAD);
        Checks.due("26 case -1", x.judge(-1, 0, 0), BAD);
        Checks.due("26 day 21", x.judge(0, 0, 21), BAD);
        Checks.due("26 day -1", x.judge(0, 0, -1), BAD);
        LastPage y = Checks.bookOf("p1056 e06 p106");
        Checks.due("26 by none", y.judge(0, 44, 2), NONE);
        Checks.due("26 a definition of none", y.judge(1, 0, 0), 2);
        Checks.due("26 an exception", y.judge(1, 0, 2), 1);
        Checks.due("26 by none", y.judge(1, 1, 2), NONE);
        LastPage z = Checks.bookOf("d50 p0");
        Checks.due("26 never by a definition", z.judge(31, 0, 1), 1);
        LastPage w = Checks.bookOf("d50");
        Checks.due("26 never by a definition", w.judge(31, 0, 0), NONE);
    }

    private static void dueOdds(LastPage x, int marks, int day, long upper, long lower) {
        String call = "27 odds(" + marks + ", " + day + ")";
        Checks.due(call, x.odds(marks, day), 1);
        Checks.due(call + ", upper()", x.upper(), upper);
        Checks.due(call + ", lower()", x.lower(), lower);
    }

    private static void odds() {
        LastPage x = Checks.bookOf("p156 d54");
        dueOdds(x, 3, 0, 0, 1);
        dueOdds(x, 19, 1, 3, 5);
        dueOdds(x, 3, 1, 0, 1);
        dueOdds(x, 31, 1, 1, 1);
        x.rip();
        dueOdds(x, 3, 0, 4, 25);
        Checks.due("27 case 32", x.odds(32, 0), BAD);
        Checks.due("27 case -1", x.odds(-1, 0), BAD);
        Checks.due("27 day 21", x.odds(0, 21), BAD);
        Checks.due("27 day -1", x.odds(0, -1), BAD);
        Checks.due("27 as it was told", x.upper(), 4);
        Checks.due("27 as it was told", x.lower(), 25);
        LastPage y = Checks.bookOf("p15");
        dueOdds(y, 3, 0, 2, 5);
    }

    private static void waits() {
        LastPage x = Checks.bookOf("p1 d50 p05 p15");
        // From day 1 on page 2 rules wherever page 3 fits, as it weighs the same and has the lesser number.
        int[] waiting = {30, 0, 0, 0, 0};
        int[] sure = {1, 0, 0, 16, 16};
        for (int day = 0; day < waiting.length; day++) {
            Checks.due("28 waits(" + day + ")", x.waits(day), waiting[day]);
            Checks.due("28 sure to be 1 on " + day, x.asked(), sure[day]);
        }
        Checks.due("28 day 21", x.waits(21), BAD);
        Checks.due("28 day -1", x.waits(-1), BAD);
        Checks.due("28 as it was told", x.asked(), 16);
    }

    private static void all() {
        Checks.due("29 without pages", new LastPage().all(), 0);
        Checks.due("29 one day", Checks.bookOf("p15").all(), 30);
        Checks.due("29 till it is told", Checks.bookOf("d50 p0 p15").all(), 60);
        Checks.due("29 told ahead", Checks.bookOf("p15 d50").all(), 0);
        LastPage x = Checks.bookOf("d50 p15");
        x.verdict(31, 0);
        Checks.due("29 all", x.all(), 30);
        Checks.due("29 not told by asked()", x.asked(), 25);
    }

    public static void main(String[] args) {
        verdict();
        weight();
        judge();
        odds();
        waits();
        all();
        Checks.end("CasesTest");
    }
}
