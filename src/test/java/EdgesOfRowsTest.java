/** The document's sentences on errors, rows and fit, at their edges; promises 10 to 18. */
public final class EdgesOfRowsTest {
    private static final Check C = new Check();
    private static final int LEAST = Integer.MIN_VALUE, MOST = Integer.MAX_VALUE, NONE = EasyToHard.NONE;
    /** Each pupil says yes to one question, no to all others: by any row all but one are off by one. */
    private static final String[] ONE_EACH =
        {"1000000", "0100000", "0010000", "0001000", "0000100", "0000010", "0000001"};

    public static void main(String[] args) {
        errorsOfBothKinds();
        steps();
        leastStep();
        bestRow();
        leastOfLikeRows();
        fit();
        byShares();
        noAnswers();
        fractions();
        odd();
        leastOdd();
        withoutOne();
        turned();
        leastOfLikeChanges();
        errors();
        off();
        row();
        step();
        offByForms();
        offByItems();
        wrongOffBy();
        fitAsTold();
        oddAsTold();
        without();
        worst();
        C.finish();
    }

    private static EasyToHard told(int n, String... rows) {
        EasyToHard x = Check.of(n);
        Check.tell(x, 0, rows);
        return x;
    }

    private static void rowIs(EasyToHard x, int... want) {
        for (int i = 0; i < want.length; i++) {
            C.due("row(" + i + ")", x.row(i), want[i]);
        }
        C.bad("beyond the row", x.row(want.length));
    }

    private static void errorsOfBothKinds() {
        C.says(0, "ERRORS of a PUPIL with a SET of QUESTIONS (bits): "
                + "how many yes to others, and no to those in it, together.");
        EasyToHard x = told(7, "1111111", "0000000", "-------", "1010-01");
        int[][] want = {{0, 0, 7}, {0, 127, 0}, {0, 1, 6}, {0, 64, 6}, {1, 0, 0}, {1, 127, 7}, {1, 1, 1}, {1, 64, 1},
            {2, 0, 0}, {2, 127, 0}, {3, 0, 3}, {3, 127, 3}, {3, 69, 0}, {3, 58, 6}, {3, 85, 0}, {3, 42, 6}};
        for (int[] w : want) {
            C.due("errors(" + w[0] + ", " + w[1] + ")", x.errors(w[0], w[1]), w[2]);
        }
    }

    private static void steps() {
        C.says(0, "By a ROW of all QUESTIONS (each once): the STEP of a PUPIL is the least k (0 to n) such that");
        for (int n = 2; n <= 7; n++) {
            EasyToHard x = Check.of(n);
            for (int pupil = 0; pupil <= n; pupil++) {
                for (int question = 0; question < n; question++) {
                    x.answer(pupil, question, question < pupil ? 1 : 0, 0);
                }
            }
            for (int pupil = 0; pupil <= n; pupil++) {
                C.due("n of " + n + ": step of " + pupil, x.step(pupil, 0), pupil);
                C.due("n of " + n + ": off of " + pupil, x.step(pupil, 1), 0);
            }
            C.due("n of " + n + ": one row", x.off(1), 1);
        }
    }

    private static void leastStep() {
        C.says(0, "ERRORS with the first k of the ROW are the fewest; OFF: these.");
        EasyToHard x = told(3, "100", "110", "1--", "--1", "-1-", "---", "-0-", "--0", "010", "101", "001", "111");
        rowIs(x, 0, 1, 2);
        int[] step = {1, 2, 1, 3, 2, 0, 0, 0, 0, 1, 0, 3};
        int[] off = {0, 0, 0, 0, 0, 0, 0, 0, 1, 1, 1, 0};
        for (int pupil = 0; pupil < 12; pupil++) {
            C.due("step of " + pupil, x.step(pupil, 0), step[pupil]);
            C.due("off of " + pupil, x.step(pupil, 1), off[pupil]);
        }
        C.due("off of all", x.off(0), 3);
    }

    private static void bestRow() {
        C.says(0, "BEST: the ROW by which OFF of all PUPILS together is the least,");
        EasyToHard x = told(2, "10", "10", "10", "10", "10", "01", "01", "01", "01", "01", "01", "01");
        C.due("five against seven", x.off(0), 5);
        C.due("by one row", x.off(1), 1);
        rowIs(x, 1, 0);
        EasyToHard y = told(7, "0000001", "0000011", "0000111", "0001111", "0011111", "0111111");
        rowIs(y, 6, 5, 4, 3, 2, 1, 0);
        C.due("nothing off", y.off(0), 0);
    }

    private static void leastOfLikeRows() {
        C.says(0, "of like ones the least, QUESTION by QUESTION.");
        EasyToHard x = told(2, "10", "10", "10", "10", "10", "10", "01", "01", "01", "01", "01", "01");
        C.due("six against six", x.off(0), 6);
        C.due("by both rows", x.off(1), 2);
        rowIs(x, 0, 1);
        EasyToHard y = told(7, ONE_EACH);
        C.due("six are off by one", y.off(0), 6);
        C.due("by any row", y.off(1), 5040);
        rowIs(y, 0, 1, 2, 3, 4, 5, 6);
        EasyToHard z = told(4, "0001");
        C.due("d ahead of the others", z.off(1), 6);
        rowIs(z, 3, 0, 1, 2);
        EasyToHard w = told(4, "0-01");
        C.due("d ahead of a and c", w.off(1), 8);
        rowIs(w, 1, 3, 0, 2);
    }

    private static void fraction(EasyToHard x, int which, long above, long below) {
        C.due("fit(" + which + ", 0)", x.fit(which, 0), above);
        C.due("fit(" + which + ", 1)", x.fit(which, 1), below);
    }

    private static void fit() {
        C.says(0, "FIT: all ANSWERS (yes, no) less OFF of all by BEST, by all;");
        fraction(told(7, ONE_EACH), 0, 43, 49);
        fraction(told(2, "10", "01"), 0, 3, 4);
        fraction(told(2, "10", "01", "1-", "-0", "--"), 0, 5, 6);
        fraction(told(2, "10", "01", "--1"), 0, 3, 4);
        fraction(told(5, "1"), 0, 1, 1);
        EasyToHard x = Check.of(7);
        for (int i = 0; i < 84; i++) {
            x.answer(i / 7, i % 7, 1, 0);
        }
        C.due("as many answers as there can be", x.count(2), 84);
        fraction(x, 0, 1, 1);
        fraction(x, 1, 1, 1);
    }

    private static void byShares() {
        C.says(0, "BY SHARES: for each QUESTION as many as there are of yes, or of no, "
                + "whichever is more, together, by all;");
        fraction(told(7, ONE_EACH), 1, 6, 7);
        fraction(told(2, "10", "01"), 1, 1, 2);
        fraction(told(2, "1-", "1-", "0-"), 1, 2, 3);
        fraction(told(2, "0-", "0-", "1-"), 1, 2, 3);
        fraction(told(2, "0-", "-1"), 1, 1, 1);
        fraction(told(2, "01", "01", "11", "10"), 1, 5, 8);
        fraction(told(2, "0--", "1-1", "--1"), 1, 1, 2);
        EasyToHard x = told(2, "10", "01", "01");
        fraction(x, 1, 2, 3);
        Check.tell(x, 1, "01", "", "", "-1", "0-");
        fraction(x, 1, 1, 1);
        x.set(1, 0);
        fraction(x, 1, 2, 3);
    }

    private static void noAnswers() {
        C.says(0, "FRACTIONS; NOT: no ANSWERS.");
        EasyToHard x = new EasyToHard();
        fraction(x, 0, Check.NOT_LONG, Check.NOT_LONG);
        fraction(x, 1, Check.NOT_LONG, Check.NOT_LONG);
        x.answer(0, 0, 2, 0);
        fraction(x, 0, Check.NOT_LONG, Check.NOT_LONG);
        x.answer(0, 5, 1, 0);
        fraction(x, 1, Check.NOT_LONG, Check.NOT_LONG);
        x.answer(0, 4, 0, 1);
        fraction(x, 0, 1, 1);
        fraction(x, 1, 1, 1);
        x.set(1, 0);
        fraction(x, 1, Check.NOT_LONG, Check.NOT_LONG);
    }

    private static void fractions() {
        C.says(0, "FRACTIONS are told in lowest terms, above and below (0 by 1).");
        fraction(told(2, "10", "01", "10", "01"), 0, 3, 4);
        fraction(told(2, "10", "01", "11"), 0, 5, 6);
        fraction(told(2, "10", "01", "11", "00"), 0, 7, 8);
        fraction(told(2, "10", "01", "11", "00"), 1, 1, 2);
        fraction(told(2, "11", "11", "11"), 0, 1, 1);
    }

    private static void odd() {
        C.says(0, "ODD: the PUPIL who is most OFF by BEST,");
        EasyToHard x = told(4, "1100", "1100", "1100", "0011", "1101");
        rowIs(x, 0, 1, 3, 2);
        C.due("the one who is off by 2", x.odd(), 3);
        Check.tell(x, 1, "", "", "", "1100", "", "", "", "", "", "", "", "0011");
        C.due("the last pupil", x.odd(), 11);
    }

    private static void leastOdd() {
        C.says(0, "of like ones the least; NONE: nobody is.");
        C.due("of six off by one", told(7, ONE_EACH).odd(), 1);
        C.due("of six of twelve", told(2, "10", "10", "01", "01").odd(), 2);
        EasyToHard x = told(2, "01", "10", "10");
        C.due("the first pupil", x.odd(), 0);
        x.answer(0, 1, 0, 1);
        C.due("nobody then", x.odd(), NONE);
        C.due("nobody without answers", new EasyToHard().odd(), NONE);
    }

    private static void withoutOne() {
        C.says(0, "WITHOUT a QUESTION,");
        EasyToHard x = told(7, ONE_EACH);
        for (int question = 0; question < 7; question++) {
            C.due("one less is off without " + question, x.without(question, 0), 5);
        }
        EasyToHard y = told(2, "10", "01", "01");
        C.due("without a", y.without(0, 0), 0);
        C.due("without b", y.without(1, 0), 0);
        C.due("with both", y.off(0), 1);
        EasyToHard z = told(3, "101", "011");
        C.due("what is best then: without a", z.without(0, 0), 0);
        C.due("what is best then: without b", z.without(1, 0), 0);
        C.due("what is best then: without c", z.without(2, 0), 1);
    }

    private static void turned() {
        C.says(0, "or with one TURNED (yes for no): OFF of all by what is BEST then;");
        EasyToHard x = told(7, ONE_EACH);
        for (int question = 0; question < 7; question++) {
            C.due("with " + question + " turned", x.without(question, 1), 5);
        }
        EasyToHard y = told(2, "10", "01", "01");
        C.due("with a turned", y.without(0, 1), 0);
        C.due("with b turned", y.without(1, 1), 0);
        C.due("the row is as it was", y.row(0), 1);
        EasyToHard z = told(2, "11", "00", "1-", "0-");
        C.due("with a turned it is worse", z.without(0, 1), 1);
        C.due("none stays none", z.without(1, 1), 1);
        C.due("nothing off as it is", z.off(0), 0);
    }

    private static void leastOfLikeChanges() {
        C.says(0, "the QUESTION by which that is the least, of like ones the least.");
        EasyToHard x = told(7, ONE_EACH);
        C.due("all alike, without", x.worst(0), 0);
        C.due("all alike, turned", x.worst(1), 0);
        EasyToHard y = told(3, "--0", "110", "101", "010", "100");
        C.due("b alone", y.worst(0), 1);
        EasyToHard z = told(3, "001", "101", "100", "110", "001", "001", "110");
        C.due("the last alone", z.worst(1), 2);
        EasyToHard w = told(3, "-10", "-01", "-10", "-01");
        C.due("b and c alike", w.worst(0), 1);
        C.due("b and c alike, turned", w.worst(1), 1);
        C.due("without a", w.without(0, 0), 2);
    }

    private static void errors() {
        EasyToHard x = told(5, "11001", "00110--");
        Check.tell(x, 0, "-----11", "-----00");
        C.says(10, "ERRORS of a PUPIL with a SET (0 to 127; bits of n on do not count).");
        C.due("the least set", x.errors(0, 0), 3);
        C.due("the greatest set", x.errors(0, 127), 2);
        C.due("all below n", x.errors(0, 31), 2);
        C.due("only bits of n on", x.errors(0, 96), 3);
        C.due("no to those of n on", x.errors(1, 96), 2);
        x.set(0, 7);
        C.due("they count with n of 7", x.errors(0, 96), 3);
        C.due("all with n of 7", x.errors(0, 31), 4);
        C.due("no to them with n of 7", x.errors(1, 96), 4);
        C.says(10, "BAD.");
        int[][] wrong = {{-1, 0}, {12, 0}, {0, -1}, {0, 128}, {LEAST, 0}, {MOST, 0}, {0, LEAST}, {0, MOST}};
        for (int[] w : wrong) {
            C.bad("errors(" + w[0] + ", " + w[1] + ")", x.errors(w[0], w[1]));
        }
    }

    private static void off() {
        C.says(11, "OFF of all PUPILS by BEST (what = 0), by how many ROWS it is so little (1).");
        int[] rows = {0, 0, 2, 6, 24, 120, 720, 5040};
        for (int n = 2; n <= 7; n++) {
            EasyToHard x = Check.of(n);
            C.due("no answers: off, n of " + n, x.off(0), 0);
            C.due("no answers: rows, n of " + n, x.off(1), rows[n]);
            x.answer(0, 0, 1, 0);
            x.answer(0, 1, 0, 0);
            C.due("one ahead of another: rows, n of " + n, x.off(1), rows[n] / 2);
        }
        EasyToHard x = told(2, "10", "01", "01");
        C.due("one is off", x.off(0), 1);
        C.due("by one row", x.off(1), 1);
        C.says(11, "BAD.");
        for (int what : new int[] {-1, 2, LEAST, MOST}) {
            C.bad("off(" + what + ")", x.off(what));
        }
    }

    private static void row() {
        for (int n = 2; n <= 7; n++) {
            EasyToHard x = Check.of(n);
            x.answer(0, n - 1, 1, 0);
            x.answer(0, 0, 0, 0);
            C.says(12, "The i-th QUESTION of BEST.");
            int seen = 0;
            for (int i = 0; i < n; i++) {
                seen |= 1 << x.row(i);
            }
            C.due("each once, n of " + n, seen, (1 << n) - 1);
            C.due("the first, n of " + n, x.row(0), 1);
            C.due("yes ahead of no, n of " + n, x.row(n - 2), n - 1);
            C.due("the last, n of " + n, x.row(n - 1), 0);
            C.says(12, "BAD.");
            for (int i : new int[] {-1, n, LEAST, MOST}) {
                C.bad("row(" + i + "), n of " + n, x.row(i));
            }
        }
    }

    private static void step() {
        EasyToHard x = told(2, "10", "10", "01", "11");
        x.answer(11, 1, 1, 0);
        C.says(13, "Of a PUPIL by BEST: STEP (what = 0), OFF (1).");
        int[][] want = {{0, 1, 0}, {2, 0, 1}, {3, 2, 0}, {4, 0, 0}, {11, 2, 0}};
        for (int[] w : want) {
            C.due("step of " + w[0], x.step(w[0], 0), w[1]);
            C.due("off of " + w[0], x.step(w[0], 1), w[2]);
        }
        C.says(13, "BAD.");
        int[][] wrong = {{-1, 0}, {12, 0}, {-1, 1}, {12, 1}, {0, -1}, {0, 2}, {LEAST, 0}, {MOST, 0}, {0, LEAST}, {0, MOST}};
        for (int[] w : wrong) {
            C.bad("step(" + w[0] + ", " + w[1] + ")", x.step(w[0], w[1]));
        }
    }

    private static void offByForms() {
        C.says(14, "OFF of all PUPILS by a ROW told by a SHEET (its first n items).");
        EasyToHard x = told(7, "1000000", "1100000", "1110000", "1111000", "1111100", "1111110", "1111111");
        for (int form = 0; form < 3; form++) {
            Check.fill(x, 3, form, 6, 5, 4, 3, 2, 1, 0);
            C.due("the other way about", x.offBy(3), 12);
            Check.fill(x, form, form, 0, 1, 2, 3, 4, 5, 6, 6, 99, -1);
            C.due("more than n items", x.offBy(form), 0);
        }
        C.due("the best row is as it was", x.row(0), 0);
        for (int n = 2; n <= 7; n++) {
            x.set(0, n);
            C.due("the first " + n + " items", x.offBy(0), 0);
        }
        EasyToHard y = told(2, "10", "10", "01");
        Check.fill(y, 0, 0, 1, 0);
        C.due("not by the best", y.offBy(0), 2);
        Check.fill(y, 0, 0, 0, 1);
        C.due("by the best", y.offBy(0), 1);
        y.answer(11, 1, 1, 0);
        y.answer(11, 0, 0, 0);
        C.due("the last pupil too", y.offBy(0), 2);
        x.sheet(1, 0, 60);
        C.due("0 each", x.offBy(1), EasyToHard.NOT);
    }

    private static void offByItems() {
        C.says(14, "NOT: it has fewer, or they are not all QUESTIONS.");
        EasyToHard x = Check.of(3);
        int[][] wrong = {{}, {0}, {0, 1}, {0, 0, 0}, {0, 1, 1}, {1, 1, 2}, {0, 1, 3}, {3, 1, 2}, {-1, 1, 2}, {0, 1, -1},
            {0, 1, 34}, {32, 1, 2}, {256, 1, 2}, {0, 1, 65538}, {0, 1, LEAST}, {0, 1, MOST}, {0, 1, 1, 2}, {3, 0, 1, 2}};
        for (int[] w : wrong) {
            Check.fill(x, 0, 2, w);
            C.due("offBy of " + java.util.Arrays.toString(w), x.offBy(0), EasyToHard.NOT);
        }
        C.due("is no finding", x.count(8), 0);
        for (int n = 2; n <= 7; n++) {
            EasyToHard y = Check.of(n);
            y.sheet(0, 1, n - 1);
            y.sheet(1, 1, n);
            for (int i = 0; i < n; i++) {
                y.lay(0, 1, i, i);
                y.lay(1, 1, i, n - 1 - i);
            }
            C.due("one too few, n of " + n, y.offBy(0), EasyToHard.NOT);
            C.due("just enough, n of " + n, y.offBy(1), 0);
            y.set(0, n == 7 ? 6 : n + 1);
            C.due("with another n", y.offBy(1), EasyToHard.NOT);
        }
    }

    private static void wrongOffBy() {
        EasyToHard x = new EasyToHard();
        C.says(14, "BAD; NULL;");
        for (int s : new int[] {-1, 4, LEAST, MOST}) {
            C.bad("offBy(" + s + ")", x.offBy(s));
        }
        C.due("no finding", x.count(8), 0);
        C.due("the first sheet, lost", x.offBy(0), -11);
        C.due("the last sheet, lost", x.offBy(3), -11);
        C.due("a finding", x.count(8), 1);
        Check.fill(x, 3, 2, 0, 1, 2, 3, 4);
        C.due("a row", x.offBy(3), 0);
        x.lose(3);
        C.due("lost again", x.offBy(3), -11);
    }

    private static void fitAsTold() {
        C.says(15, "FIT (which = 0), BY SHARES (1): above, below.");
        EasyToHard x = told(2, "10", "01", "10");
        fraction(x, 0, 5, 6);
        fraction(x, 1, 2, 3);
        C.says(15, "BAD; NOT. (As the least long.)");
        EasyToHard empty = new EasyToHard();
        int[][] wrong = {{-1, 0}, {2, 0}, {0, -1}, {0, 2}, {LEAST, 0}, {MOST, 0}, {0, LEAST}, {0, MOST}};
        for (int[] w : wrong) {
            C.due("fit(" + w[0] + ", " + w[1] + ")", x.fit(w[0], w[1]), Long.MIN_VALUE + 2);
            C.due("without answers", empty.fit(w[0], w[1]), Long.MIN_VALUE + 2);
        }
        for (int w = 0; w < 4; w++) {
            C.due("no answers", empty.fit(w / 2, w % 2), Long.MIN_VALUE + 3);
        }
    }

    private static void oddAsTold() {
        C.says(16, "ODD; NONE.");
        C.due("nobody answered", new EasyToHard().odd(), NONE);
        C.due("nobody is off", told(3, "100", "110").odd(), NONE);
        EasyToHard x = told(2, "10", "10");
        x.answer(11, 0, 0, 0);
        x.answer(11, 1, 1, 0);
        C.due("the last", x.odd(), 11);
    }

    private static void without() {
        C.says(17, "OFF of all WITHOUT a QUESTION (how = 0), with it TURNED (1).");
        EasyToHard x = told(3, "110", "001", "110");
        int[][] want = {{0, 1, 1}, {1, 1, 1}, {2, 0, 0}};
        for (int[] w : want) {
            C.due("without " + w[0], x.without(w[0], 0), w[1]);
            C.due("turned " + w[0], x.without(w[0], 1), w[2]);
        }
        C.due("as it is", x.off(0), 1);
        C.says(17, "BAD.");
        for (int n = 2; n <= 7; n++) {
            EasyToHard y = Check.of(n);
            int[][] wrong = {{-1, 0}, {n, 0}, {-1, 1}, {n, 1}, {0, -1}, {0, 2}, {LEAST, 0}, {MOST, 0}, {0, LEAST},
                {0, MOST}};
            for (int[] w : wrong) {
                C.bad("without(" + w[0] + ", " + w[1] + "), n of " + n, y.without(w[0], w[1]));
            }
            C.due("the last, n of " + n, y.without(n - 1, 1), 0);
        }
    }

    private static void worst() {
        C.says(18, "The QUESTION by which that is the least.");
        EasyToHard x = told(3, "110", "001", "110");
        C.due("without", x.worst(0), 2);
        C.due("turned", x.worst(1), 2);
        EasyToHard y = told(7, "1111110", "0000001", "1111110");
        C.due("the last of seven", y.worst(0), 6);
        C.due("the last of seven, turned", y.worst(1), 6);
        y.set(0, 6);
        C.due("all alike below it", y.worst(0), 0);
        C.due("no answers", new EasyToHard().worst(1), 0);
        C.says(18, "BAD.");
        for (int how : new int[] {-1, 2, LEAST, MOST}) {
            C.bad("worst(" + how + ")", x.worst(how));
        }
    }
}
