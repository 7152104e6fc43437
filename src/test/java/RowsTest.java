/** Promises 1 to 7: a new object, rows. */
public final class RowsTest {
    private static final int BAD = LastPage.BAD;
    private static final int NOTHING = 1, BEYOND = 2, NOUGHT = 4, SIZE = 5;

    private static void newObject() {
        LastPage x = new LastPage();
        for (int what = 0; what <= 6; what++) Checks.due("1 count", x.count(what), 0);
        for (int r = 0; r < 6; r++) Checks.dueFinding("1 at", x, x.at(r, 0), NOTHING);
        for (int t = 0; t < 4; t++) Checks.dueFinding("1 fault", x, x.fault(t), NOTHING);
        for (int k = 0; k < 3; k++) Checks.dueFinding("1 on", x, x.on(k), NOTHING);
        Checks.due("1 page", x.page(0, 0), BAD);
        Checks.due("1 binds", x.binds(0), 0);
    }

    private static void row() {
        LastPage x = new LastPage();
        Checks.due("2 row", x.row(0, 3), 3);
        Checks.due("2 row", x.row(5, 40), 40);
        Checks.due("2 row", x.row(1, 0), 0);
        Checks.due("2 row 6", x.row(6, 1), BAD);
        Checks.due("2 row -1", x.row(-1, 1), BAD);
        Checks.due("2 row of 41", x.row(0, 41), BAD);
        Checks.due("2 BAD ahead of SIZE", x.row(6, -1), BAD);
        Checks.due("2 no finding yet", x.finding(), 0);
        Checks.dueFinding("2 row of -1", x, x.row(0, -1), SIZE);
        Checks.dueFinding("2 row of least", x, x.row(3, Integer.MIN_VALUE), SIZE);
        Checks.due("2 rows", x.count(4), 3);
        Checks.dueRow("2 still as it was", x, 0, 0, 0, 0);
        x.lay(0, 0, 7);
        x.lay(0, 2, 8);
        x.row(0, 1);
        Checks.dueRow("2 shorter", x, 0, 0);
        x.row(0, 3);
        Checks.dueRow("2 anew", x, 0, 0, 0, 0);
    }

    private static void layAndAt() {
        LastPage x = new LastPage();
        Checks.dueFinding("3 missing", x, x.lay(0, 0, 1), NOTHING);
        Checks.dueFinding("4 missing", x, x.at(0, 0), NOTHING);
        x.row(0, 2);
        Checks.due("3 lay", x.lay(0, 1, -5), 1);
        Checks.due("3 was", x.asked(), 0);
        Checks.due("3 lay", x.lay(0, 1, Integer.MIN_VALUE), 1);
        Checks.due("3 was", x.asked(), -5);
        Checks.due("3 row 6", x.lay(6, 0, 1), BAD);
        Checks.due("3 row -1", x.lay(-1, 0, 1), BAD);
        Checks.dueFinding("3 behind", x, x.lay(0, 2, 1), BEYOND);
        Checks.dueFinding("3 ahead", x, x.lay(0, -1, 1), BEYOND);
        Checks.due("3 as it was told", x.asked(), -5);
        Checks.due("4 at", x.at(0, 1), 1);
        Checks.due("4 told", x.asked(), Integer.MIN_VALUE);
        Checks.due("4 row 6", x.at(6, 0), BAD);
        Checks.dueFinding("4 behind", x, x.at(0, 2), BEYOND);
        Checks.dueFinding("4 ahead", x, x.at(0, -1), BEYOND);
        Checks.due("4 as it was told", x.asked(), Integer.MIN_VALUE);
    }

    private static void tear() {
        LastPage x = new LastPage();
        x.row(2, 4);
        Checks.due("5 row 6", x.tear(6), BAD);
        Checks.due("5 row -1", x.tear(-1), BAD);
        Checks.due("5 tear", x.tear(2), 1);
        Checks.due("5 rows", x.count(4), 0);
        Checks.dueFinding("5 torn", x, x.tear(2), NOTHING);
        Checks.dueFinding("5 torn", x, x.at(2, 0), NOTHING);
    }

    private static void copy() {
        LastPage x = new LastPage();
        Checks.layRow(x, 0, 1, 2, 3, 4, 5);
        x.row(1, 3);
        Checks.due("6 copy", x.copy(0, 3, 1, 1, 2), 1);
        Checks.dueRow("6 copied", x, 1, 0, 4, 5);
        Checks.due("6 forward in itself", x.copy(0, 0, 0, 1, 4), 1);
        Checks.dueRow("6 as if taken ahead", x, 0, 1, 1, 2, 3, 4);
        Checks.due("6 back in itself", x.copy(0, 1, 0, 0, 4), 1);
        Checks.dueRow("6 as if taken ahead", x, 0, 1, 2, 3, 4, 4);
        Checks.due("6 none, at the ends", x.copy(0, 5, 1, 3, 0), 1);
        Checks.due("6 row 6", x.copy(6, 0, 0, 0, 1), BAD);
        Checks.due("6 to row 6", x.copy(0, 0, 6, 0, 1), BAD);
        Checks.due("6 BAD ahead of SIZE", x.copy(0, 0, -1, 0, -1), BAD);
        Checks.dueFinding("6 SIZE ahead of NOTHING", x, x.copy(0, 0, 3, 0, -1), SIZE);
        Checks.dueFinding("6 NOTHING ahead of BEYOND", x, x.copy(0, 0, 3, 9, 1), NOTHING);
        Checks.dueFinding("6 from a missing one", x, x.copy(3, 0, 0, 0, 1), NOTHING);
        Checks.dueFinding("6 not so many", x, x.copy(0, 3, 1, 0, 3), BEYOND);
        Checks.dueFinding("6 not so many there", x, x.copy(0, 0, 1, 1, 3), BEYOND);
        Checks.dueFinding("6 from ahead", x, x.copy(0, -1, 1, 0, 1), BEYOND);
        Checks.dueFinding("6 to ahead", x, x.copy(0, 0, 1, -1, 1), BEYOND);
        Checks.dueFinding("6 too great a sum", x, x.copy(0, 1, 1, 0, Integer.MAX_VALUE), BEYOND);
        Checks.dueFinding("6 none, behind the end", x, x.copy(0, 6, 1, 0, 0), BEYOND);
        Checks.dueRow("6 unchanged", x, 1, 0, 4, 5);
    }

    private static void mean() {
        LastPage x = new LastPage();
        Checks.dueFinding("7 missing", x, x.mean(0), NOTHING);
        Checks.layRow(x, 0, 1, 2, 5);
        Checks.due("7 mean", x.mean(0), 1);
        Checks.due("7 cut", x.asked(), 2);
        Checks.layRow(x, 0, -1, -2, -2);
        Checks.due("7 mean", x.mean(0), 1);
        Checks.due("7 cut, not down", x.asked(), -1);
        Checks.layRow(x, 0, Integer.MAX_VALUE, Integer.MAX_VALUE);
        Checks.due("7 mean", x.mean(0), 1);
        Checks.due("7 of a great sum", x.asked(), Integer.MAX_VALUE);
        Checks.due("7 row 6", x.mean(6), BAD);
        x.row(0, 0);
        Checks.dueFinding("7 among none", x, x.mean(0), NOUGHT);
        Checks.due("7 as it was told", x.asked(), Integer.MAX_VALUE);
        Checks.due("7 no fraction", x.lower(), 1);
    }

    public static void main(String[] args) {
        newObject();
        row();
        layAndAt();
        tear();
        copy();
        mean();
        Checks.end("RowsTest");
    }
}
