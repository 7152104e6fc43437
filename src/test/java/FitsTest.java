/** Promises 39 to 41: what was meant, of which kind, lots. */
public final class FitsTest {
    private static final int BAD = LastPage.BAD;
    private static final int NOTHING = 1, UNLIKE = 3, SIZE = 5;

    private static void dueMeant(LastPage x, int want, int fives, int... threes) {
        Checks.layRow(x, 3, threes);
        Checks.due("39 meant", x.meant(3), want);
        Checks.due("39 word 5", x.asked(), fives);
    }

    private static void meant() {
        LastPage x = Checks.bookOf("p15 d53");
        dueMeant(x, 25, 31);
        dueMeant(x, 5, 1, 1, 1, 1);
        dueMeant(x, 20, 29, 2, 1, 0);
        dueMeant(x, 10, 18, 18, 1, 1);
        dueMeant(x, 5, 16, 18, 1, 1, 2, 20, 0);
        dueMeant(x, 0, 0, 1, 0, 1);
        dueMeant(x, 25, 31, 1, 0, 0);
        LastPage y = Checks.bookOf("p156");
        dueMeant(y, 4, 3, 3, 0, 1);
        dueMeant(y, 1, 1, 1, 0, 1);
        dueMeant(y, 16, 31, 3, 0, 0, 1, 0, 0, 16, 0, 0, 31, 0, 1, 8, 0, 0, 4, 0, 0, 17, 0, 0);
        dueMeant(y, 24, 31, 1, 0, 0);
        LastPage z = new LastPage();
        dueMeant(z, 25, 31, 31, 20, 0);
        dueMeant(z, 0, 0, 31, 20, 1);
    }

    private static void meantRefused() {
        LastPage x = Checks.bookOf("p15");
        x.verdict(1, 0);
        Checks.due("39 row 6", x.meant(6), BAD);
        Checks.due("39 row -1", x.meant(-1), BAD);
        Checks.dueFinding("39 missing", x, x.meant(0), NOTHING);
        int[][] sizes = {{32}, {0, 0}, {32, 21, 2, 0}, {0, 0, 0, 0, 0}};
        for (int[] row : sizes) {
            Checks.layRow(x, 0, row);
            x.verdict(1, 0);
            Checks.dueFinding("39 not by threes", x, x.meant(0), SIZE);
        }
        int[][] unlike = {{32, 0, 0}, {-1, 0, 0}, {0, 21, 0}, {0, -1, 0}, {0, 0, 2}, {0, 0, -1}, {0, 0, 0, 0, 0, 2}};
        for (int[] row : unlike) {
            Checks.layRow(x, 0, row);
            x.verdict(1, 0);
            Checks.dueFinding("39 none such", x, x.meant(0), UNLIKE);
            Checks.due("39 as it was told", x.asked(), 5);
        }
    }

    private static void kinds() {
        LastPage x = Checks.bookOf("e0 p1");
        Checks.due("40 any", x.kinds(0, 0, 1, 0), 19);
        Checks.due("40 none", x.kinds(0, 0, 1, 1), 0);
        Checks.due("40 not struck", x.kinds(0, 0, 4, 0), 3);
        Checks.due("40 struck", x.kinds(0, 0, 4, 1), 16);
        Checks.due("40 alike by weight", x.kinds(1, 0, 1, 1), 0);
        LastPage y = Checks.bookOf("p0 p1 o01 d50 i31");
        Checks.due("40 to outweigh", y.kinds(1, 0, 4, 1), 18);
        Checks.due("40 to be outweighed", y.kinds(1, 0, 4, 0), 1);
        Checks.due("40 changes nothing", y.binds(20), 31);
        for (int i = 2; i < 5; i++) Checks.dueFinding("40 another kind", y, y.kinds(i, 0, 0, 0), UNLIKE);
        LastPage z = Checks.bookOf("p15 p04");
        Checks.due("40 waits as each", z.kinds(0, 1, 1, 1), 0);
        Checks.due("40 waits as each", z.kinds(0, 1, 1, 0), 0);
        Checks.due("40 sure as an exception", z.kinds(0, 31, 1, 1), 19);
        LastPage w = Checks.bookOf("p15");
        w.reverse(0, 0);
        Checks.due("40 any", w.kinds(0, 1, 0, 0), 19);
        Checks.due("40 page 1", w.kinds(1, 0, 0, 0), BAD);
        Checks.due("40 page -1", w.kinds(-1, 0, 0, 0), BAD);
        Checks.due("40 case 32", w.kinds(0, 32, 0, 0), BAD);
        Checks.due("40 case -1", w.kinds(0, -1, 0, 0), BAD);
        Checks.due("40 day 21", w.kinds(0, 0, 21, 0), BAD);
        Checks.due("40 day -1", w.kinds(0, 0, -1, 0), BAD);
        Checks.due("40 verdict 2", w.kinds(0, 0, 0, 2), BAD);
        Checks.due("40 verdict -1", w.kinds(0, 0, 0, -1), BAD);
        Checks.due("40 BAD ahead of UNLIKE", y.kinds(3, 0, 0, 2), BAD);
    }

    private static void lots() {
        LastPage x = Checks.bookOf("p15");
        // By seed 1 the cases are 15, 2, 6: all wait; by seed 17 the first is 31, which is sure.
        Checks.due("41 one", x.lots(1, 1), 1);
        Checks.due("41 three", x.lots(3, 1), 3);
        Checks.due("41 sure", x.lots(1, 17), 0);
        Checks.due("41 sure, and one that waits", x.lots(2, 17), 1);
        LastPage y = Checks.bookOf("s15");
        // By seed 5: case 11 on day 3, case 10 on day 1, case 1 on day 7; it binds till day 2.
        Checks.due("41 day 3", y.lots(1, 5), 0);
        Checks.due("41 day 1", y.lots(2, 5), 1);
        Checks.due("41 day 7", y.lots(3, 5), 1);
        Checks.due("41 day 2", y.lots(1, 23), 1);
        Checks.due("41 the greatest seed", x.lots(3, 2147483646), 3);
        Checks.due("41 sixty", new LastPage().lots(60, 9), 0);
        Checks.due("41 none", x.lots(0, 1), BAD);
        Checks.due("41 -1", x.lots(-1, 1), BAD);
        Checks.due("41 61", x.lots(61, 1), BAD);
        Checks.due("41 seed 0", x.lots(1, 0), BAD);
        Checks.due("41 seed -1", x.lots(1, -1), BAD);
        Checks.due("41 seed 2147483647", x.lots(1, 2147483647), BAD);
    }

    public static void main(String[] args) {
        meant();
        meantRefused();
        kinds();
        lots();
        Checks.end("FitsTest");
    }
}
