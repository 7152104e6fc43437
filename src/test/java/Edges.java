import java.util.ArrayList;
import java.util.List;

/**
 * Tests of edges. Each is named by the number of its promise and by the words of the document that it is a
 * test of; Document looks whether these words stand there, and whether any word has no test.
 */
final class Edges {
    static final int BAD = LastPage.BAD, FULL = LastPage.FULL, FINDING = LastPage.FINDING, STATE = LastPage.STATE;
    static final int SPENT = LastPage.SPENT, NONE = LastPage.NONE;
    static final int NOTHING = 1, BEYOND = 2, UNLIKE = 3, NOUGHT = 4, SIZE = 5;
    static final int LEAST = Integer.MIN_VALUE, GREATEST = Integer.MAX_VALUE;

    static final String RICH_BOOK = "p1056 e03 o4136 d64 s1012 i30";
    static final String FAULTY = "p1 x";

    /** What is done to an object to bring it into a state. */
    interface Steps {
        void take(LastPage x);
    }

    interface Call {
        long answer(LastPage x);
    }

    interface CallOf {
        long answer(LastPage x, int v);
    }

    interface Body {
        void run();
    }

    record Quote(int promise, String words) {
    }

    private static final List<Quote> QUOTES = new ArrayList<>();
    private static String name = "";
    private static int checks = 0;

    private Edges() {
    }

    static List<Quote> quotes() {
        return QUOTES;
    }

    static void test(int promise, String words, Body body) {
        name = promise + " '" + words + "': ";
        QUOTES.add(new Quote(promise, words));
        checks = 0;
        body.run();
        if (checks == 0) Checks.due(name + "checks", checks, 1);
    }

    static void due(String what, long got, long want) {
        checks++;
        Checks.due(name + what, got, want);
    }

    static void dueFinding(String what, LastPage x, long got, int finding) {
        due(what, got, FINDING);
        due(what + ", finding()", x.finding(), finding);
    }

    /** A call that tells something by asked(). */
    static void dueTold(String what, LastPage x, long got, int want, int told) {
        due(what, got, want);
        due(what + ", asked()", x.asked(), told);
    }

    static void dueRow(String what, LastPage x, int r, int... want) {
        checks++;
        Checks.dueRow(name + what, x, r, want);
    }

    /** A state without anything. */
    static void bare(LastPage x) {
    }

    /**
     * A state in which there is some of everything: 6 PAGES of all KINDS, otherwise read than from the end; kept
     * BOOKS 0 and 2, unlike it and one another; ROWS 0 to 3 (one empty, one full); TEXTS 0 to 2; a FINDING,
     * something told by asked(), a fraction.
     */
    static void rich(LastPage x) {
        Checks.lay(x, 0, RICH_BOOK);
        x.book(0);
        x.swap(1, 4);
        x.keep(0);
        x.odds(17, 5);
        x.reverse(0, 0);
        x.swap(0, 2);
        x.keep(2);
        x.reverse(1, 1);
        Checks.lay(x, 1, FAULTY);
        x.text(2, 0);
        Checks.layRow(x, 0, 5, 5, 1);
        Checks.layRow(x, 1, 3, -7, GREATEST, 32);
        x.row(2, 0);
        x.row(3, 40);
        x.lay(3, 0, 21);
        x.lay(3, 39, LEAST);
        x.mean(2);
        x.at(1, 1);
    }

    /** As the rich one, but the BOOK has no PAGES: kept ones are there. */
    static void torn(LastPage x) {
        rich(x);
        for (int k = 0; k < 6; k++) x.rip();
    }

    /** A call that is refused in a state: what it answers, and that it changes nothing but the findings. */
    static void refused(Steps state, String what, Call call, int answer, int finding) {
        LastPage x = new LastPage();
        LastPage twin = new LastPage();
        state.take(x);
        state.take(twin);
        due(what, call.answer(x), answer);
        boolean found = answer == FINDING;
        due(what + ", finding()", x.finding(), found ? finding : twin.finding());
        for (int f = NOTHING; f <= SIZE; f++) {
            due(what + ", findings(" + f + ")", x.findings(f), twin.findings(f) + (found && f == finding ? 1 : 0));
        }
        dueAlike(what + " changes nothing", x, twin);
    }

    /** Two objects are alike in all that can be seen of them but the findings. */
    static void dueAlike(String what, LastPage x, LastPage twin) {
        List<Long> got = sightOf(x);
        List<Long> want = sightOf(twin);
        for (int k = 0; k < want.size(); k++) due(what + ", sight " + k, got.get(k), want.get(k));
    }

    static void bad(Steps state, String what, Call call) {
        refused(state, what, call, BAD, 0);
    }

    static void found(Steps state, String what, Call call, int finding) {
        refused(state, what, call, FINDING, finding);
    }

    /** Numbers from the least to the greatest are fine, those just outside are BAD, and so are the farthest. */
    static void bounds(Steps state, String what, int least, int greatest, CallOf call) {
        for (int v = least; v <= greatest; v++) {
            LastPage x = new LastPage();
            state.take(x);
            due(what + " " + v + " is not BAD", call.answer(x, v) == BAD ? 1 : 0, 0);
        }
        for (int v : new int[] {LEAST, least - 1, greatest + 1, GREATEST}) {
            bad(state, what + " " + v, x -> call.answer(x, v));
        }
    }

    /** All that can be seen of an object but the findings. */
    private static List<Long> sightOf(LastPage x) {
        List<Long> seen = new ArrayList<>(List.of((long) x.asked(), x.upper(), x.lower(), x.digest()));
        for (int what = 0; what <= 6; what++) seen.add((long) x.count(what));
        for (int day = 0; day <= 8; day++) seen.add((long) x.binds(day));
        for (int t = 0; t < 4; t++) seen.add((long) x.fault(t));
        for (int r = 0; r < 6; r++) {
            for (int i = 0; i < 4; i++) {
                seen.add((long) x.at(r, i));
                seen.add((long) x.asked());
            }
        }
        for (int k = 0; k < 3; k++) {
            seen.add((long) x.on(k));
            seen.add(x.digest());
        }
        return seen;
    }
}
