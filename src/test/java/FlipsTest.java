/** Promises 33 to 36: what flips, what matters. */
public final class FlipsTest {
    private static final int BAD = LastPage.BAD, NONE = LastPage.NONE;

    private static void flips() {
        LastPage x = Checks.bookOf("d50 e15 p0");
        // Case 1 waits on day 1 and is 1 on day 2; case 31 is 1 from day 1 on.
        Checks.due("33 waiting passed over", x.flips(1), 1);
        Checks.due("34 on the last page read", x.flip(1, 0), 0);
        Checks.due("34 not twice", x.flip(1, 1), NONE);
        Checks.due("33 sure at once", x.flips(31), 1);
        Checks.due("34 sure at once", x.flip(31, 0), 1);
        Checks.due("33 back to what it was", x.flips(2), 0);
        Checks.due("34 never", x.flip(2, 0), NONE);
        Checks.due("35 most", x.most(), 1);
        Checks.due("35 how often", x.asked(), 1);
    }

    private static void oftener() {
        LastPage x = Checks.bookOf("e13 e0 p12 p02 p11 p0");
        // Case 6 by days: 0, 1 by page 4, 0 by page 3 (it is heavier by its number), then 1, 0 by page 1, 0.
        int[] days = {0, 1, 0, 1, 0, 0};
        for (int day = 0; day < 6; day++) {
            x.verdict(6, day);
            Checks.due("33 case 6 on day " + day, x.asked(), days[day] * 25);
        }
        Checks.due("33 case 6", x.flips(6), 4);
        int[] pages = {4, 3, 2, 1};
        for (int n = 0; n < 4; n++) Checks.due("34 case 6", x.flip(6, n), pages[n]);
        Checks.due("34 case 6", x.flip(6, 4), NONE);
        Checks.due("34 case 6", x.flip(6, Integer.MAX_VALUE), NONE);
        Checks.due("33 case 14", x.flips(14), 5);
        Checks.due("34 case 14", x.flip(14, 4), 0);
        Checks.due("35 the first", x.most(), 14);
        Checks.due("35 how often", x.asked(), 5);
        x.swap(0, 5);
        Checks.due("33 ruled from day 0 on", x.flips(14), 0);
        Checks.due("35 now another", x.most(), 6);
        Checks.due("35 how often", x.asked(), 4);
    }

    private static void edges() {
        LastPage x = Checks.bookOf("s1");
        Checks.due("33 of days of reading alone", x.flips(0), 0);
        LastPage y = new LastPage();
        Checks.due("33 without pages", y.flips(31), 0);
        Checks.due("34 without pages", y.flip(31, 0), NONE);
        Checks.due("35 without pages", y.most(), 0);
        Checks.due("35 without pages", y.asked(), 0);
        Checks.due("33 case 32", x.flips(32), BAD);
        Checks.due("33 case -1", x.flips(-1), BAD);
        Checks.due("34 case 32", x.flip(32, 0), BAD);
        Checks.due("34 case -1", x.flip(-1, 0), BAD);
        Checks.due("34 n -1", x.flip(0, -1), BAD);
        LastPage z = Checks.bookOf("e0 p1");
        Checks.due("34 the first day is no flip", z.flip(0, 0), 0);
        Checks.due("33 the first day is no flip", z.flips(0), 1);
        Checks.due("35 each once: the first", z.most(), 0);
        Checks.due("35 each once", z.asked(), 1);
    }

    private static void matter() {
        LastPage x = Checks.bookOf("e0 p1");
        Checks.due("36 not read yet", x.matter(0, 0), 0);
        Checks.due("36 all by it", x.matter(1, 0), 32);
        Checks.due("36 all by it", x.matter(0, 1), 32);
        Checks.due("36 outweighed", x.matter(1, 1), 0);
        LastPage y = Checks.bookOf("p15 d50");
        Checks.due("36 what waits then", y.matter(1, 1), 30);
        Checks.due("36 half of them", y.matter(0, 1), 16);
        LastPage z = Checks.bookOf("i11 p0");
        Checks.due("36 an index not read", z.matter(0, 0), 32);
        Checks.due("36 what is pointed to", z.matter(1, 0), 32);
        LastPage w = Checks.bookOf("d50 d51 p15");
        Checks.due("36 the definition ahead rules again", w.matter(0, 2), 16);
        Checks.due("36 another one was read later", w.matter(1, 2), 0);
        Checks.due("36 changes nothing", w.binds(20), 7);
        Checks.due("36 page 3", w.matter(3, 0), BAD);
        Checks.due("36 page -1", w.matter(-1, 0), BAD);
        Checks.due("36 day 21", w.matter(0, 21), BAD);
        Checks.due("36 day -1", w.matter(0, -1), BAD);
    }

    public static void main(String[] args) {
        flips();
        oftener();
        edges();
        matter();
        Checks.end("FlipsTest");
    }
}
