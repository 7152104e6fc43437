/** Promises 37 and 38: orders of reading. */
public final class OrdersTest {
    private static final int BAD = LastPage.BAD, STATE = LastPage.STATE;

    private static void dueBest(String signs, int want, int... order) {
        LastPage x = Checks.bookOf(signs);
        int before = x.all();
        Checks.due("37 best of " + signs, x.best(4), want);
        Checks.dueRow("37 best of " + signs, x, 4, order);
        Checks.due("37 the book is as it was", x.all(), before);
        Checks.due("37 such a row can be read", x.read(4), 1);
        Checks.due("37 all() by it", x.all(), want);
    }

    private static void best() {
        dueBest("p15", 30, 0);
        dueBest("p0 p0 p0", 0, 0, 1, 2);
        dueBest("d50 p15", 0, 0, 1);
        dueBest("p15 d50", 0, 1, 0);
        dueBest("p15 d50 p0", 0, 1, 0, 2);
        dueBest("p16 p0 p15", 60, 1, 0, 2);
        dueBest("p15 d60 p16 d50", 0, 1, 2, 3, 0);
        dueBest("p0 p16 d64 p15 d53 p0", 0, 0, 2, 1, 4, 3, 5);
    }

    private static void bestRefused() {
        LastPage x = new LastPage();
        Checks.due("37 BAD ahead of STATE", x.best(6), BAD);
        Checks.due("37 row -1", x.best(-1), BAD);
        Checks.due("37 no pages", x.best(0), STATE);
        Checks.due("37 refused: no row", x.count(4), 0);
        x.add(1, 0);
        Checks.layRow(x, 0, 5, 5, 5);
        Checks.due("37 best", x.best(0), 0);
        Checks.dueRow("37 anew", x, 0, 0);
    }

    private static void front() {
        LastPage x = Checks.bookOf("d50 p15");
        Checks.due("38 from the front", x.front(), 0);
        Checks.due("38 from the end", x.asked(), 30);
        x.swap(0, 1);
        Checks.due("38 whatever is told", x.front(), 0);
        Checks.due("38 whatever is told", x.asked(), 30);
        Checks.due("38 changes nothing", x.all(), 0);
        LastPage y = Checks.bookOf("p15 p0 d50");
        Checks.due("38 from the front", y.front(), 60);
        Checks.due("38 from the end", y.asked(), 0);
        LastPage z = new LastPage();
        z.row(0, 1);
        z.lay(0, 0, 9);
        z.at(0, 0);
        Checks.due("38 without pages", z.front(), 0);
        Checks.due("38 without pages", z.asked(), 0);
    }

    public static void main(String[] args) {
        best();
        bestRefused();
        front();
        Checks.end("OrdersTest");
    }
}
