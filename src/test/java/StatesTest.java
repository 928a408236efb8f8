/** Promises 19 to 23: states, belongs, next, paths, deep. */
public final class StatesTest {
    private static final Check C = new Check();

    public static void main(String[] args) {
        withoutNeeds();
        listed();
        belonging();
        neighbours();
        pathsAndDepths();
        circleThatIsFound();
        byWhichNeeds();
        wrongInputs();
        C.finish();
    }

    private static void withoutNeeds() {
        EasyToHard x = new EasyToHard();
        int[] paths = {0, 0, 2, 6, 24, 120, 720, 5040};
        for (int n = 2; n <= 7; n++) {
            x.set(0, n);
            C.due("all sets", x.states(-1), 1 << n);
            C.due("the last", x.states((1 << n) - 1), (1 << n) - 1);
            C.due("beyond", x.states(1 << n), EasyToHard.NONE);
            C.due("paths", x.paths(), paths[n]);
            C.due("deep", x.deep(n - 1), 1);
        }
        C.due("far beyond", x.states(Integer.MAX_VALUE), EasyToHard.NONE);
    }

    private static void listed() {
        EasyToHard x = new EasyToHard();
        x.set(0, 3);
        Check.type(x, "c<a;c<b");
        int[] want = {0, 4, 5, 6, 7};
        C.due("how many", x.states(-1), want.length);
        for (int i = 0; i < want.length; i++) {
            C.due("state " + i, x.states(i), want[i]);
        }
        C.due("beyond", x.states(5), EasyToHard.NONE);
    }

    private static void belonging() {
        EasyToHard x = new EasyToHard();
        x.set(0, 3);
        Check.type(x, "c<a;c<b");
        Check.tell(x, 0, "100", "111", "000", "1--", "--1", "110");
        int[][] want = {{0, 1, 2}, {7, 0, 1}, {0, 0, 1}, {5, 0, 2}, {4, 0, 4}, {7, 1, 1}, {0, 0, 5}};
        for (int pupil = 0; pupil < want.length; pupil++) {
            for (int what = 0; what < 3; what++) {
                C.due("belongs(" + pupil + ", " + what + ")", x.belongs(pupil, what), want[pupil][what]);
            }
        }
        x.wipe();
        C.due("without needs", x.belongs(0, 0), 1);
    }

    private static void neighbours() {
        EasyToHard x = new EasyToHard();
        x.set(0, 4);
        Check.type(x, "a<b;b<c");
        int[][] want = {{0, 9, 0, 1}, {1, 10, 1, 1}, {2, 1, 2, 0}, {3, 12, 2, 1}, {4, 0, 4, 0}, {5, 2, 4, 0},
            {6, 1, 0, 0}, {7, 8, 4, 1}, {15, 0, 12, 1}, {127, 0, 12, 1}, {16, 9, 0, 1}, {112, 9, 0, 1}};
        for (int[] w : want) {
            C.due("next to " + w[0], x.next(w[0], 0), w[1]);
            C.due("last of " + w[0], x.next(w[0], 1), w[2]);
            C.due("is a state: " + w[0], x.next(w[0], 2), w[3]);
        }
    }

    private static void pathsAndDepths() {
        EasyToHard x = new EasyToHard();
        x.set(0, 7);
        Check.type(x, "a<b;b<c;c<d;d<e;e<f;f<g");
        C.due("a chain has one path", x.paths(), 1);
        C.due("and eight states", x.states(-1), 8);
        for (int question = 0; question < 7; question++) {
            C.due("deep " + question, x.deep(question), question + 1);
        }
        x.wipe();
        Check.type(x, "a<g;b<g;c<g;d<g;e<g;f<g");
        C.due("g comes last", x.paths(), 720);
        C.due("all for g", x.deep(6), 7);
        C.due("none for f", x.deep(5), 1);
        x.set(0, 6);
        C.due("without g", x.paths(), 720);
    }

    private static void circleThatIsFound() {
        EasyToHard x = new EasyToHard();
        x.set(0, 3);
        Check.tell(x, 0, "10-", "10-", "01-", "-10", "-10", "-01", "0-1", "0-1", "1-0");
        x.set(2, 1);
        x.set(3, 1);
        C.due("a for b", x.needed(0, 1, 1), 1);
        C.due("b for c", x.needed(1, 2, 1), 1);
        C.due("c for a", x.needed(2, 0, 1), 1);
        C.due("nothing or all", x.states(-1), 2);
        C.due("no path", x.paths(), 0);
        C.due("all at once", x.deep(1), 3);
        C.due("nothing is next", x.next(0, 0), 0);
        C.due("sure by one", x.sure(0, 0, 0), 1);
        C.due("nobody learns", x.lessons(4, -1), 0);
    }

    private static void byWhichNeeds() {
        EasyToHard x = new EasyToHard();
        x.set(0, 2);
        Check.type(x, "b<a");
        Check.tell(x, 0, "10");
        C.due("by told needs", x.next(1, 2), 0);
        x.set(3, 1);
        C.due("by found needs", x.next(1, 2), 1);
        C.due("b is no state", x.next(2, 2), 0);
        x.answer(1, 0, 0, 1);
        x.answer(1, 1, 1, 1);
        C.due("found no longer", x.next(2, 2), 1);
        x.answer(2, 0, 1, 2);
        x.answer(2, 1, 0, 2);
        x.set(2, 1);
        C.due("found with slack", x.next(2, 2), 0);
        x.set(1, 1);
        C.due("not as of 1", x.next(2, 2), 1);
        x.set(3, 0);
        C.due("told again", x.next(1, 2), 0);
    }

    private static void wrongInputs() {
        EasyToHard x = new EasyToHard();
        C.due("states(-2)", x.states(-2), EasyToHard.BAD);
        C.due("states(least)", x.states(Integer.MIN_VALUE), EasyToHard.BAD);
        int[][] wrong = {{-1, 0}, {12, 0}, {0, -1}, {0, 3}};
        for (int[] w : wrong) {
            C.due("belongs(" + w[0] + ", " + w[1] + ")", x.belongs(w[0], w[1]), EasyToHard.BAD);
        }
        int[][] wrongNext = {{-1, 0}, {128, 0}, {0, -1}, {0, 3}};
        for (int[] w : wrongNext) {
            C.due("next(" + w[0] + ", " + w[1] + ")", x.next(w[0], w[1]), EasyToHard.BAD);
        }
        C.due("deep(-1)", x.deep(-1), EasyToHard.BAD);
        C.due("deep(5)", x.deep(5), EasyToHard.BAD);
    }
}
