/** Promises 8 to 11: texts, faults, books by them. */
public final class TextsTest {
    private static final int BAD = LastPage.BAD, STATE = LastPage.STATE, NONE = LastPage.NONE;
    private static final int NOTHING = 1, BEYOND = 2, SIZE = 5;

    private static void text() {
        LastPage x = new LastPage();
        Checks.due("8 text", x.text(0, 2), 2);
        Checks.due("8 text", x.text(3, 80), 80);
        Checks.due("8 text", x.text(1, 0), 0);
        Checks.due("8 text 4", x.text(4, 1), BAD);
        Checks.due("8 text -1", x.text(-1, 1), BAD);
        Checks.due("8 text of 81", x.text(0, 81), BAD);
        Checks.due("8 BAD ahead of SIZE", x.text(4, -1), BAD);
        Checks.due("8 no finding yet", x.finding(), 0);
        Checks.dueFinding("8 text of -1", x, x.text(2, -1), SIZE);
        Checks.due("8 texts", x.count(5), 3);
        Checks.due("8 a blank", x.put(0, 1, 65), 1032);
        Checks.due("8 anew", x.text(0, 2), 2);
        Checks.due("8 a blank again", x.put(0, 1, 65), 1032);
    }

    private static void put() {
        LastPage x = new LastPage();
        Checks.dueFinding("9 missing", x, x.put(0, 0, 1), NOTHING);
        x.text(0, 1);
        Checks.due("9 put", x.put(0, 0, 300), 1032);
        Checks.due("9 cut to a byte", x.put(0, 0, 200), 1044);
        Checks.due("9 cut to a byte below 0", x.put(0, 0, -1), 944);
        Checks.due("9 below 0", x.put(0, 0, 127), 999);
        Checks.due("9 put", x.put(0, 0, 128), 1127);
        Checks.due("9 put", x.put(0, 0, 0), 872);
        Checks.due("9 text 4", x.put(4, 0, 1), BAD);
        Checks.due("9 text -1", x.put(-1, 0, 1), BAD);
        Checks.dueFinding("9 behind", x, x.put(0, 1, 1), BEYOND);
        Checks.dueFinding("9 ahead", x, x.put(0, -1, 1), BEYOND);
        Checks.due("9 not told by asked()", x.asked(), 0);
    }

    private static void dueFault(String signs, int want) {
        LastPage x = new LastPage();
        Checks.lay(x, 2, signs);
        Checks.due("10 fault of '" + signs + "'", x.fault(2), want);
        if (want != NONE) Checks.due("11 book of '" + signs + "'", x.book(2), STATE);
        Checks.due("10 changes nothing", x.count(0), 0);
    }

    private static void faults() {
        String[] none = {"", "  ", "p0", "e1", "s0", "o01", "i51", "d50", "d64", " p1 ", "p10123456", "p1p0e1",
            "d63d61", "p16o51", "p0p0p0p0p0p0", "  p0 p0 p0 p0 p0 p0  ", "o506", "i410123456"};
        for (String signs : none) dueFault(signs, NONE);
        dueFault("x", 0);
        dueFault("P1", 0);
        dueFault("1", 0);
        dueFault(" " + (char) 9 + "p1", 1);
        dueFault("p", 1);
        dueFault("p2", 1);
        dueFault("p 1", 1);
        dueFault("e/", 1);
        dueFault("sp", 1);
        dueFault("p17", 2);
        dueFault("p1:", 2);
        dueFault("p111", 3);
        dueFault("p110", 3);
        dueFault("p1 0", 3);
        dueFault("p10123456 6", 10);
        dueFault("p101234566", 9);
        dueFault("o", 1);
        dueFault("o6", 1);
        dueFault("o5", 2);
        dueFault("o52", 2);
        dueFault("o5 1", 2);
        dueFault("i", 1);
        dueFault("i0", 2);
        dueFault("i017", 3);
        dueFault("d", 1);
        dueFault("d4", 1);
        dueFault("d7", 1);
        dueFault("d5", 2);
        dueFault("d55", 2);
        dueFault("d5 0", 2);
        dueFault("d500", 3);
        dueFault("p0p0p0p0p0p0p0", 12);
        dueFault("p0 p0 p0 p0 p0 p0  e", 19);
        dueFault("p0 p0 p0 p0 p0 p0  ?", 19);
        dueFault("p0p0p0p0p0p", 11);
    }

    private static void faultRefused() {
        LastPage x = new LastPage();
        Checks.due("10 text 4", x.fault(4), BAD);
        Checks.due("10 text -1", x.fault(-1), BAD);
        Checks.dueFinding("10 missing", x, x.fault(3), NOTHING);
        x.text(3, 80);
        Checks.due("10 blanks", x.fault(3), NONE);
        x.put(3, 79, 'p');
        Checks.due("10 the end of a full one", x.fault(3), 80);
        x.put(3, 79, 200);
        Checks.due("10 a byte below 0", x.fault(3), 79);
    }

    private static void book() {
        LastPage x = Checks.bookOf("p0 e1 d50");
        Checks.due("11 pages", x.count(0), 3);
        for (int i = 0; i < 3; i++) {
            x.page(i, 5);
            Checks.due("11 read from its end", x.asked(), 2 - i);
        }
        for (int k = 0; k < 3; k++) x.keep(k);
        x.swap(0, 2);
        Checks.due("11 text 4", x.book(4), BAD);
        Checks.due("11 text -1", x.book(-1), BAD);
        Checks.dueFinding("11 missing", x, x.book(1), NOTHING);
        Checks.lay(x, 1, "p0 p");
        Checks.due("11 a fault", x.book(1), STATE);
        Checks.due("11 STATE is no finding", x.findings(NOTHING), 1);
        Checks.due("11 refused: as it was", x.count(0), 3);
        Checks.due("11 refused: still kept", x.count(6), 3);
        Checks.due("11 anew", x.book(0), 3);
        Checks.due("11 kept ones go", x.count(6), 0);
        x.page(0, 5);
        Checks.due("11 from its end again", x.asked(), 2);
        x.text(0, 0);
        Checks.due("11 without pages", x.book(0), 0);
        Checks.due("11 without pages", x.count(0), 0);
    }

    public static void main(String[] args) {
        text();
        put();
        faults();
        faultRefused();
        book();
        Checks.end("TextsTest");
    }
}
