/** Promises 30 to 32: deeds. */
public final class DeedsTest {
    private static final int BAD = LastPage.BAD, SPENT = LastPage.SPENT, NONE = LastPage.NONE;
    private static final int NOTHING = 1, UNLIKE = 3, SIZE = 5;

    private static void free() {
        LastPage x = Checks.bookOf("e0 p1");
        Checks.due("30 from day 0", x.free(0, 0), 1);
        Checks.due("30 from day 2", x.free(0, 2), 2);
        Checks.due("30 on the last day", x.free(31, 20), 20);
        LastPage y = Checks.bookOf("s14");
        Checks.due("30 when it is struck", y.free(16, 0), 3);
        Checks.due("30 another case", y.free(15, 0), 0);
        LastPage z = Checks.bookOf("d50 p15");
        Checks.due("30 waits first", z.free(2, 0), 1);
        Checks.due("30 never", z.free(1, 0), NONE);
        Checks.due("30 never", Checks.bookOf("p1").free(0, 20), NONE);
        Checks.due("30 case 32", x.free(32, 0), BAD);
        Checks.due("30 case -1", x.free(-1, 0), BAD);
        Checks.due("30 day 21", x.free(0, 21), BAD);
        Checks.due("30 day -1", x.free(0, -1), BAD);
    }

    private static void deeds() {
        LastPage x = Checks.bookOf("s1 s10");
        // Case 1 is free from day 4 on, as the page of day 1 binds till day 3; so is any other.
        Checks.layRow(x, 0, 1, 0, 2);
        Checks.due("31 deeds", x.deeds(0, 1), 6);
        Checks.dueRow("31 days", x, 1, 4, 5, 6);
        Checks.dueRow("31 deeds are as they were", x, 0, 1, 0, 2);
        x.swap(0, 1);
        Checks.layRow(x, 2, 0, 1);
        Checks.due("31 others", x.deeds(2, 1), 4);
        Checks.dueRow("31 anew", x, 1, 3, 4);
        Checks.layRow(x, 0, 0, 0, 0, 0, 0, 0, 0, 31);
        Checks.due("31 eight", x.deeds(0, 5), 10);
        Checks.dueRow("31 eight", x, 5, 3, 4, 5, 6, 7, 8, 9, 10);
        x.row(3, 0);
        Checks.due("31 without deeds", x.deeds(3, 5), NONE);
        Checks.dueRow("31 an empty row", x, 5);
        Checks.layRow(x, 2, 31, 30);
        Checks.due("31 into itself", x.deeds(2, 2), 5);
        Checks.dueRow("31 into itself", x, 2, 4, 5);
    }

    private static void deedsRefused() {
        LastPage x = Checks.bookOf("p10 p0");
        Checks.due("31 row 6", x.deeds(6, 0), BAD);
        Checks.due("31 to row 6", x.deeds(0, 6), BAD);
        Checks.due("31 row -1", x.deeds(-1, 0), BAD);
        Checks.due("31 to row -1", x.deeds(0, -1), BAD);
        Checks.dueFinding("31 missing", x, x.deeds(0, 1), NOTHING);
        Checks.layRow(x, 0, 32, 0, 0, 0, 0, 0, 0, 0, 0);
        Checks.dueFinding("31 SIZE ahead of UNLIKE", x, x.deeds(0, 1), SIZE);
        Checks.layRow(x, 0, 1, 1, 32);
        Checks.dueFinding("31 UNLIKE ahead of SPENT", x, x.deeds(0, 1), UNLIKE);
        Checks.layRow(x, 0, 0, -1);
        Checks.dueFinding("31 below 0", x, x.deeds(0, 1), UNLIKE);
        Checks.layRow(x, 0, 0, 1);
        Checks.layRow(x, 1, 7);
        Checks.due("31 case 1 is free on day 0 alone", x.deeds(0, 1), SPENT);
        Checks.dueRow("31 refused: as it was", x, 1, 7);
        Checks.due("31 into a missing one", x.deeds(0, 2), SPENT);
        Checks.due("31 still missing", x.count(4), 2);
    }

    private static void order() {
        LastPage x = Checks.bookOf("p10 p0");
        Checks.layRow(x, 0, 0, 1, 2);
        Checks.due("32 order", x.order(0, 1), 2);
        Checks.dueRow("32 places, the first of alike orders", x, 1, 1, 0, 2);
        Checks.layRow(x, 0, 1);
        Checks.due("31 on day 0", x.deeds(0, 2), 0);
        Checks.due("32 one alone", x.order(0, 2), 0);
        Checks.dueRow("32 one alone", x, 2, 0);
        Checks.layRow(x, 0, 1, 1);
        Checks.due("32 by none", x.order(0, 1), SPENT);
        Checks.dueRow("32 refused: as it was", x, 1, 1, 0, 2);
        Checks.layRow(x, 0, 2, 2, 0, 0, 2);
        Checks.due("32 five", x.order(0, 0), 4);
        Checks.dueRow("32 into itself", x, 0, 0, 1, 2, 3, 4);
        x.row(0, 0);
        Checks.due("32 without deeds", x.order(0, 1), NONE);
        Checks.dueRow("32 an empty row", x, 1);
        LastPage y = Checks.bookOf("s10 p0");
        // Case 1 is free on day 0 and from day 4 on.
        Checks.layRow(y, 0, 2, 1, 1);
        Checks.due("32 the last day is first", y.order(0, 1), 4);
        Checks.dueRow("32 the first such order", y, 1, 1, 0, 2);
        Checks.due("32 as they come", y.deeds(0, 1), 5);
    }

    private static void orderRefused() {
        LastPage x = Checks.bookOf("p1");
        Checks.due("32 row 6", x.order(6, 0), BAD);
        Checks.due("32 to row 6", x.order(0, 6), BAD);
        Checks.due("32 row -1", x.order(-1, 0), BAD);
        Checks.due("32 to row -1", x.order(0, -1), BAD);
        Checks.dueFinding("32 missing", x, x.order(0, 1), NOTHING);
        Checks.layRow(x, 0, 0, 0, 0, 0, 0, 32);
        Checks.dueFinding("32 SIZE ahead of UNLIKE", x, x.order(0, 1), SIZE);
        Checks.layRow(x, 0, 0, 32);
        Checks.dueFinding("32 UNLIKE ahead of SPENT", x, x.order(0, 1), UNLIKE);
        Checks.layRow(x, 0, -1);
        Checks.dueFinding("32 below 0", x, x.order(0, 1), UNLIKE);
        Checks.layRow(x, 0, 0);
        Checks.due("32 never free", x.order(0, 1), SPENT);
        Checks.due("32 still missing", x.count(4), 1);
    }

    public static void main(String[] args) {
        free();
        deeds();
        deedsRefused();
        order();
        orderRefused();
        Checks.end("DeedsTest");
    }
}
