/** What the tests share: answers that are due, and objects with a book laid in. */
final class Checks {
    private static int passed = 0;
    private static int failed = 0;

    private Checks() {
    }

    static void due(String call, long got, long want) {
        if (got == want) {
            passed++;
            return;
        }
        failed++;
        System.out.println(call + " answered " + got + ", due is " + want);
    }

    static void dueRow(String call, LastPage x, int r, int... want) {
        for (int i = 0; i < want.length; i++) {
            due(call + ", at(" + r + ", " + i + ")", x.at(r, i), 1);
            due(call + ", place " + i, x.asked(), want[i]);
        }
        due(call + ", its end", x.at(r, want.length), LastPage.FINDING);
        due(call + ", its end", x.finding(), 2);
    }

    /** A call that was refused with a FINDING. */
    static void dueFinding(String call, LastPage x, int got, int finding) {
        due(call, got, LastPage.FINDING);
        due(call + ", finding()", x.finding(), finding);
    }

    static void lay(LastPage x, int t, String signs) {
        due("text", x.text(t, signs.length()), signs.length());
        for (int i = 0; i < signs.length(); i++) {
            if (signs.charAt(i) != ' ') due("put", x.put(t, i, signs.charAt(i)), 1032);
        }
    }

    static void layRow(LastPage x, int r, int... ints) {
        due("row", x.row(r, ints.length), ints.length);
        for (int i = 0; i < ints.length; i++) {
            if (ints[i] != 0) due("lay", x.lay(r, i, ints[i]), 1);
        }
    }

    static LastPage bookOf(String signs) {
        LastPage x = new LastPage();
        lay(x, 0, signs);
        due("fault of " + signs, x.fault(0), LastPage.NONE);
        if (x.book(0) < 0) due("book of " + signs, LastPage.STATE, 0);
        return x;
    }

    static void end(String test) {
        System.out.println(test + ": " + passed + " answers as due, " + failed + " not");
        if (failed != 0 || passed == 0) System.exit(1);
    }
}
