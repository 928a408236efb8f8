/** Promises 10 to 18: errors, off, row, step, offBy, fit, odd, without, worst. */
public final class RowsTest {
    private static final Check C = new Check();

    public static void main(String[] args) {
        errors();
        noAnswers();
        perfectRow();
        backwardsRow();
        likeRows();
        leastStep();
        rowsOfSheets();
        wrongRowsOfSheets();
        fit();
        odd();
        withoutAndTurned();
        changesShow();
        wrongInputs();
        C.finish();
    }

    private static void errors() {
        EasyToHard x = new EasyToHard();
        Check.tell(x, 0, "110-01");
        int[] sets = {0, 1, 3, 4, 7, 31, 8, 32, 35, 127};
        int[] want = {2, 1, 0, 3, 1, 2, 2, 2, 0, 2};
        for (int i = 0; i < sets.length; i++) {
            C.due("errors with " + sets[i], x.errors(0, sets[i]), want[i]);
        }
        x.set(0, 6);
        C.due("n of 6: yes to f counts", x.errors(0, 3), 1);
        C.due("n of 6: and is in it", x.errors(0, 35), 0);
        C.due("no answers, no errors", x.errors(11, 127), 0);
    }

    private static void noAnswers() {
        EasyToHard x = new EasyToHard();
        int[] ways = {0, 0, 2, 6, 24, 120, 720, 5040};
        for (int n = 2; n <= 7; n++) {
            x.set(0, n);
            C.due("off of none", x.off(0), 0);
            C.due("all rows of " + n, x.off(1), ways[n]);
            for (int i = 0; i < n; i++) {
                C.due("row of none", x.row(i), i);
            }
            C.due("beyond the row", x.row(n), EasyToHard.BAD);
        }
        C.due("step of none", x.step(0, 0), 0);
        C.due("off of one with none", x.step(0, 1), 0);
        C.due("nobody is odd", x.odd(), EasyToHard.NONE);
        C.due("worst of none", x.worst(0), 0);
        C.due("worst turned of none", x.worst(1), 0);
        C.due("no fit", x.fit(0, 0), Check.NOT_LONG);
        C.due("no fit by shares", x.fit(1, 1), Check.NOT_LONG);
        x.answer(0, 6, 1, 0);
        x.set(0, 6);
        C.due("no fit of answers beyond n", x.fit(0, 1), Check.NOT_LONG);
    }

    private static void perfectRow() {
        EasyToHard x = new EasyToHard();
        Check.tell(x, 0, "00010", "00110", "01110", "11110", "11111");
        int[] row = {3, 2, 1, 0, 4};
        C.due("nothing off", x.off(0), 0);
        C.due("one row alone", x.off(1), 1);
        for (int i = 0; i < 5; i++) {
            C.due("row " + i, x.row(i), row[i]);
            C.due("step of " + i, x.step(i, 0), i + 1);
            C.due("off of " + i, x.step(i, 1), 0);
        }
        C.due("fit", x.fit(0, 0), 1);
        C.due("fit below", x.fit(0, 1), 1);
    }

    private static void backwardsRow() {
        EasyToHard x = new EasyToHard();
        x.set(0, 7);
        Check.tell(x, 0, "0000001", "0000011", "0000111", "0001111", "0011111", "0111111");
        for (int i = 0; i < 7; i++) {
            C.due("row " + i + " from the last on", x.row(i), 6 - i);
        }
        C.due("one row", x.off(1), 1);
    }

    private static void likeRows() {
        EasyToHard x = new EasyToHard();
        x.set(0, 3);
        Check.tell(x, 0, "101", "011");
        C.due("one is off", x.off(0), 1);
        C.due("c first, then a or b; or a, c, b; or b, c, a", x.off(1), 4);
        int[] row = {0, 2, 1};
        for (int i = 0; i < 3; i++) {
            C.due("the least of like rows", x.row(i), row[i]);
        }
        C.due("step of 0", x.step(0, 0), 2);
        C.due("step of 1", x.step(1, 0), 3);
        C.due("off of 1", x.step(1, 1), 1);
    }

    private static void leastStep() {
        EasyToHard x = new EasyToHard();
        x.set(0, 2);
        Check.tell(x, 0, "01", "10", "10");
        C.due("row", x.row(0), 0);
        C.due("of like steps the least", x.step(0, 0), 0);
        C.due("with one error", x.step(0, 1), 1);
        C.due("step of 1", x.step(1, 0), 1);
        Check.tell(x, 1, "", "", "-1");
        C.due("yes to all", x.step(2, 0), 2);
    }

    private static void rowsOfSheets() {
        EasyToHard x = new EasyToHard();
        Check.tell(x, 0, "11100", "11000", "11111", "01100", "10010");
        for (int form = 0; form < 3; form++) {
            Check.fill(x, form, form, 0, 1, 2, 3, 4);
            C.due("by the row itself", x.offBy(form), x.off(0));
            Check.fill(x, form, form, 4, 3, 2, 1, 0, 99);
            C.due("items beyond n do not matter", x.offBy(form), 8);
        }
        x.set(0, 2);
        Check.fill(x, 0, 0, 1, 0);
        C.due("n of 2", x.offBy(0), 1);
    }

    private static void wrongRowsOfSheets() {
        EasyToHard x = new EasyToHard();
        C.due("offBy(-1)", x.offBy(-1), EasyToHard.BAD);
        C.due("offBy(4)", x.offBy(4), EasyToHard.BAD);
        C.due("lost", x.offBy(3), -11);
        C.due("finding", x.count(8), 1);
        int[][] wrong = {{}, {0, 1, 2, 3}, {0, 1, 2, 3, 3}, {0, 1, 2, 3, 5}, {-1, 1, 2, 3, 4}, {0, 1, 2, 3, 32}, {1, 1, 2, 3, 4},
            {5, 0, 1, 2, 3, 4}};
        for (int[] w : wrong) {
            Check.fill(x, 0, 2, w);
            C.due("offBy of " + java.util.Arrays.toString(w), x.offBy(0), EasyToHard.NOT);
        }
        C.due("NOT is no finding", x.count(8), 1);
    }

    private static void fit() {
        EasyToHard x = new EasyToHard();
        x.set(0, 3);
        Check.tell(x, 0, "101", "011");
        C.due("5 by 6", x.fit(0, 0), 5);
        C.due("5 by 6, below", x.fit(0, 1), 6);
        C.due("4 by 6", x.fit(1, 0), 2);
        C.due("4 by 6, below", x.fit(1, 1), 3);
        Check.tell(x, 0, "", "", "0");
        C.due("more no than yes", x.fit(1, 0), 5);
        C.due("more no than yes, below", x.fit(1, 1), 7);
        EasyToHard y = new EasyToHard();
        Check.tell(y, 0, "0");
        C.due("no alone", y.fit(1, 0), 1);
        C.due("no alone, below", y.fit(0, 1), 1);
    }

    private static void odd() {
        EasyToHard x = new EasyToHard();
        x.set(0, 4);
        Check.tell(x, 0, "1100", "1100", "0011", "1110", "1000", "0011");
        C.due("row begins", x.row(0), 0);
        C.due("the most off, of like ones the least", x.odd(), 2);
        C.due("how much", x.step(2, 1), 2);
        Check.tell(x, 1, "", "", "1100");
        C.due("then the other", x.odd(), 5);
        EasyToHard y = new EasyToHard();
        y.set(0, 2);
        Check.tell(y, 0, "01", "10", "10");
        C.due("pupil 0, by one", y.odd(), 0);
        Check.tell(y, 1, "01", "01", "10", "01");
        C.due("the third, by one", y.odd(), 2);
    }

    private static void withoutAndTurned() {
        EasyToHard x = new EasyToHard();
        x.set(0, 4);
        Check.tell(x, 0, "0001", "1001", "1101", "1110", "1000", "0001");
        int[] without = {1, 2, 2, 0};
        for (int question = 0; question < 4; question++) {
            C.due("without " + question, x.without(question, 0), without[question]);
        }
        C.due("worst", x.worst(0), 3);
        C.due("turned", x.without(3, 1), 1);
        EasyToHard y = new EasyToHard();
        y.set(0, 3);
        Check.tell(y, 0, "001", "101", "100", "110", "001", "001", "110");
        C.due("off", y.off(0), 3);
        C.due("with c turned", y.without(2, 1), 0);
        C.due("the one that is meant the other way about", y.worst(1), 2);
        Check.tell(y, 1, "001", "101", "111", "110", "000", "001", "110", "110");
        for (int question = 0; question < 3; question++) {
            int was = y.off(0);
            turn(y, question, 2 * question + 2);
            int turned = y.off(0);
            turn(y, question, 2 * question + 3);
            C.due("back", y.off(0), was);
            C.due("turned " + question, y.without(question, 1), turned);
        }
        EasyToHard z = new EasyToHard();
        z.set(0, 2);
        Check.tell(z, 0, "01", "10");
        C.due("n of 2 without one", z.without(1, 0), 0);
        C.due("n of 2 with one turned", z.without(0, 1), 0);
        C.due("of like ones the least", z.worst(1), 0);
        EasyToHard w = new EasyToHard();
        w.set(0, 3);
        Check.tell(w, 0, "110", "101", "010", "100");
        C.due("off with b", w.off(0), 2);
        C.due("worst is b", w.worst(0), 1);
        C.due("without b", w.without(1, 0), 0);
    }

    private static void turn(EasyToHard x, int question, int time) {
        for (int pupil = 0; pupil < 12; pupil++) {
            int v = x.said(pupil, question);
            if (v != 2) {
                x.answer(pupil, question, 1 - v, time);
            }
        }
    }

    private static void changesShow() {
        EasyToHard x = new EasyToHard();
        x.set(0, 2);
        Check.tell(x, 3, "01");
        C.due("b first", x.row(0), 1);
        Check.tell(x, 4, "10");
        C.due("told anew: a first", x.row(0), 0);
        x.set(1, 3);
        C.due("as of 3: b first", x.row(0), 1);
        C.due("without a", x.without(0, 0), 0);
        x.set(1, 4);
        Check.fill(x, 0, 0, 0, 1);
        x.read(0, 0, 5);
        x.set(1, 5);
        C.due("read: b first", x.row(0), 1);
        x.set(0, 3);
        C.due("n of 3: a does not matter", x.off(1), 3);
    }

    private static void wrongInputs() {
        EasyToHard x = new EasyToHard();
        int[] edges = {-1, 12, Integer.MIN_VALUE, Integer.MAX_VALUE};
        for (int e : edges) {
            C.due("errors of pupil " + e, x.errors(e, 0), EasyToHard.BAD);
            C.due("step of pupil " + e, x.step(e, 0), EasyToHard.BAD);
            C.due("step, what " + e, x.step(0, e), EasyToHard.BAD);
            C.due("off " + e, x.off(e), EasyToHard.BAD);
            C.due("row " + e, x.row(e), EasyToHard.BAD);
            C.due("without " + e, x.without(e, 0), EasyToHard.BAD);
            C.due("without how " + e, x.without(0, e), EasyToHard.BAD);
            C.due("worst " + e, x.worst(e), EasyToHard.BAD);
            C.due("fit " + e, x.fit(e, 0), Check.BAD_LONG);
            C.due("fit what " + e, x.fit(0, e), Check.BAD_LONG);
        }
        C.due("errors with -1", x.errors(0, -1), EasyToHard.BAD);
        C.due("errors with 128", x.errors(0, 128), EasyToHard.BAD);
        C.due("off(2)", x.off(2), EasyToHard.BAD);
        C.due("step(0, 2)", x.step(0, 2), EasyToHard.BAD);
        C.due("row(5)", x.row(5), EasyToHard.BAD);
        C.due("without(5, 0)", x.without(5, 0), EasyToHard.BAD);
        C.due("without(0, 2)", x.without(0, 2), EasyToHard.BAD);
        C.due("worst(2)", x.worst(2), EasyToHard.BAD);
        C.due("fit(2, 0)", x.fit(2, 0), Check.BAD_LONG);
        C.due("fit(0, 2)", x.fit(0, 2), Check.BAD_LONG);
    }
}
