/** The document's sentences on states, at their edges; promises 19 to 23. */
public final class EdgesOfStatesTest {
    private static final Check C = new Check();
    private static final int LEAST = Integer.MIN_VALUE, MOST = Integer.MAX_VALUE, NONE = EasyToHard.NONE;
    private static final String CHAIN = "a<b;b<c;c<d;d<e;e<f;f<g";

    public static void main(String[] args) {
        allThatAreNeeded();
        byWhichNeeds();
        belongsToTheFewest();
        belongsToTheLeast();
        howManyHaveSoFew();
        nextOnes();
        lastOnes();
        pathsByStates();
        noPaths();
        deepest();
        states();
        wrongStates();
        belongs();
        next();
        wrongNext();
        paths();
        deep();
        C.finish();
    }

    private static void statesAre(EasyToHard x, int... want) {
        C.due("how many states", x.states(NONE), want.length);
        for (int i = 0; i < want.length; i++) {
            C.due("states(" + i + ")", x.states(i), want[i]);
            C.due("is a state: " + want[i], x.next(want[i], 2), 1);
        }
        C.due("beyond", x.states(want.length), NONE);
    }

    private static void allThatAreNeeded() {
        C.says(0, "STATES: SETS in which with each QUESTION all are that are NEEDED for it");
        statesAre(Check.typed(2, ""), 0, 1, 2, 3);
        statesAre(Check.typed(2, "a<b"), 0, 1, 3);
        statesAre(Check.typed(2, "b<a"), 0, 2, 3);
        statesAre(Check.typed(3, "a<c;b<c"), 0, 1, 2, 3, 7);
        statesAre(Check.typed(3, "c<a;c<b"), 0, 4, 5, 6, 7);
        statesAre(Check.typed(7, CHAIN), 0, 1, 3, 7, 15, 31, 63, 127);
        statesAre(Check.typed(2, CHAIN), 0, 1, 3);
        EasyToHard x = Check.typed(7, "");
        C.due("as many as there can be", x.states(NONE), 128);
        C.due("the last of them", x.states(127), 127);
    }

    private static void byWhichNeeds() {
        C.says(0, "(by WHICH needs).");
        EasyToHard x = Check.typed(3, "a<b");
        Check.tell(x, 0, "-10");
        statesAre(x, 0, 1, 3, 4, 5, 7);
        x.set(3, 1);
        statesAre(x, 0, 1, 2, 3, 6, 7);
        x.wipe();
        statesAre(x, 0, 1, 2, 3, 6, 7);
        x.set(3, 0);
        C.due("all sets then", x.states(NONE), 8);
    }

    private static void belongsIs(EasyToHard x, int pupil, int state, int errors, int states) {
        C.due("belongs(" + pupil + ", 0)", x.belongs(pupil, 0), state);
        C.due("belongs(" + pupil + ", 1)", x.belongs(pupil, 1), errors);
        C.due("belongs(" + pupil + ", 2)", x.belongs(pupil, 2), states);
    }

    private static void belongsToTheFewest() {
        C.says(0, "BELONGS: of a PUPIL the STATE with the fewest ERRORS,");
        EasyToHard x = Check.typed(3, "a<b;b<c");
        Check.tell(x, 0, "111", "000", "110", "011", "101");
        belongsIs(x, 0, 7, 0, 1);
        belongsIs(x, 1, 0, 0, 1);
        belongsIs(x, 2, 3, 0, 1);
        belongsIs(x, 3, 7, 1, 1);
        belongsIs(x, 4, 1, 1, 2);
    }

    private static void belongsToTheLeast() {
        C.says(0, "of like ones the least as bits;");
        EasyToHard x = Check.typed(3, "c<a;c<b");
        Check.tell(x, 0, "1--", "-1-", "--1", "11-", "110", "010", "---");
        int[] want = {5, 6, 4, 7, 7, 0, 0};
        for (int pupil = 0; pupil < want.length; pupil++) {
            C.due("belongs(" + pupil + ", 0)", x.belongs(pupil, 0), want[pupil]);
        }
        EasyToHard y = Check.typed(2, "b<a");
        Check.tell(y, 0, "10");
        C.due("by bits, not by how many", y.belongs(0, 0), 0);
        C.due("of two", y.belongs(0, 2), 2);
        EasyToHard z = Check.typed(4, "a<b;b<c");
        Check.tell(z, 0, "0110");
        C.due("of 0, 7 and 3 the one with the fewest", z.belongs(0, 0), 7);
    }

    private static void howManyHaveSoFew() {
        C.says(0, "how many ERRORS; how many STATES have so few.");
        EasyToHard x = Check.typed(3, "a<b;b<c");
        belongsIs(x, 0, 0, 0, 4);
        Check.tell(x, 0, "001", "01", "010", "0");
        belongsIs(x, 0, 0, 1, 1);
        belongsIs(x, 1, 0, 1, 3);
        belongsIs(x, 2, 0, 1, 2);
        belongsIs(x, 3, 0, 0, 1);
        x.set(0, 7);
        x.wipe();
        belongsIs(x, 11, 0, 0, 128);
        EasyToHard y = Check.typed(7, "g<a;g<b;g<c;g<d;g<e;g<f");
        Check.tell(y, 0, "1110000");
        belongsIs(y, 0, 71, 1, 1);
        Check.tell(y, 1, "1000000");
        belongsIs(y, 0, 0, 1, 2);
    }

    private static void nextOnes() {
        C.says(0, "NEXT to a SET: QUESTIONS not in it with which it would be a STATE;");
        EasyToHard x = Check.typed(3, "a<b;b<c");
        int[] want = {1, 2, 1, 4, 0, 2, 1, 0};
        for (int set = 0; set < 8; set++) {
            C.due("next(" + set + ", 0)", x.next(set, 0), want[set]);
        }
        EasyToHard y = Check.typed(7, "");
        C.due("to nothing", y.next(0, 0), 127);
        C.due("to all", y.next(127, 0), 0);
    }

    private static void lastOnes() {
        C.says(0, "LAST: those in it without which it would be one.");
        EasyToHard x = Check.typed(3, "a<b;b<c");
        int[] want = {0, 1, 2, 2, 4, 4, 0, 4};
        for (int set = 0; set < 8; set++) {
            C.due("next(" + set + ", 1)", x.next(set, 1), want[set]);
        }
        EasyToHard y = Check.typed(7, "");
        C.due("of nothing", y.next(0, 1), 0);
        C.due("of all", y.next(127, 1), 127);
    }

    private static void pathsByStates() {
        C.says(0, "PATHS: in how many ways one comes from nothing to all QUESTIONS, one by one, by STATES alone.");
        C.due("a chain", Check.typed(7, CHAIN).paths(), 1);
        C.due("a and b in any order, then c", Check.typed(3, "a<c;b<c").paths(), 2);
        C.due("two chains of two", Check.typed(4, "a<b;c<d").paths(), 6);
        C.due("all for g", Check.typed(7, "a<g;b<g;c<g;d<g;e<g;f<g").paths(), 720);
        C.due("as many as there can be", Check.typed(7, "").paths(), 5040);
    }

    /** Found with a slack of one: a is needed for b, b for c, c for a; each by two pupils against one. */
    private static EasyToHard circle() {
        EasyToHard x = Check.of(3);
        Check.tell(x, 0, "10-", "10-", "01-", "-10", "-10", "-01", "0-1", "0-1", "1-0");
        x.set(2, 1);
        x.set(3, 1);
        return x;
    }

    private static void noPaths() {
        C.says(0, "from nothing to all QUESTIONS, one by one, by STATES alone.");
        EasyToHard x = circle();
        statesAre(x, 0, 7);
        C.due("no way", x.paths(), 0);
        C.due("next to nothing", x.next(0, 0), 0);
        C.due("next to a and b, which are no state", x.next(3, 0), 4);
        C.due("last of all", x.next(7, 1), 0);
        C.due("last of a, which is no state", x.next(1, 1), 1);
    }

    private static void deepest() {
        C.says(0, "DEEP of a QUESTION: the least number of QUESTIONS of a STATE that has it.");
        EasyToHard x = Check.typed(7, CHAIN);
        for (int question = 0; question < 7; question++) {
            C.due("deep(" + question + ")", x.deep(question), question + 1);
        }
        EasyToHard y = Check.typed(4, "a<d;b<d");
        C.due("two and itself", y.deep(3), 3);
        C.due("itself alone", y.deep(2), 1);
        EasyToHard z = circle();
        C.due("all three of a circle", z.deep(0), 3);
    }

    private static void states() {
        C.says(19, "STATES: how many (i = NONE), the i-th (0 on, the least first); NONE beyond.");
        for (int n = 2; n <= 7; n++) {
            EasyToHard x = Check.typed(n, "");
            int all = 1 << n;
            C.due("how many, n of " + n, x.states(-1), all);
            C.due("the first, n of " + n, x.states(0), 0);
            C.due("the second, n of " + n, x.states(1), 1);
            C.due("the last, n of " + n, x.states(all - 1), all - 1);
            C.due("beyond, n of " + n, x.states(all), NONE);
            C.due("far beyond, n of " + n, x.states(MOST), NONE);
        }
        EasyToHard x = Check.typed(2, "a<b");
        C.due("the last of three", x.states(2), 3);
        C.due("beyond three", x.states(3), NONE);
    }

    private static void wrongStates() {
        C.says(19, "BAD.");
        EasyToHard x = new EasyToHard();
        C.bad("states(-2)", x.states(-2));
        C.bad("states(-3)", x.states(-3));
        C.bad("states(the least)", x.states(LEAST));
    }

    private static void belongs() {
        EasyToHard x = Check.typed(2, "a<b");
        x.answer(0, 1, 1, 0);
        x.answer(11, 0, 0, 0);
        x.answer(11, 1, 1, 0);
        C.says(20, "BELONGS: the STATE (what = 0), ERRORS (1), how many STATES (2).");
        belongsIs(x, 0, 3, 0, 1);
        belongsIs(x, 11, 0, 1, 2);
        belongsIs(x, 5, 0, 0, 3);
        C.says(20, "BAD.");
        int[][] wrong = {{-1, 0}, {12, 0}, {-1, 2}, {12, 1}, {0, -1}, {0, 3}, {LEAST, 0}, {MOST, 0}, {0, LEAST}, {0, MOST}};
        for (int[] w : wrong) {
            C.bad("belongs(" + w[0] + ", " + w[1] + ")", x.belongs(w[0], w[1]));
        }
    }

    private static void next() {
        C.says(21, "NEXT to a SET (0 to 127; bits of n on do not count) (what = 0), LAST (1), as bits; "
                + "whether it is a STATE (2).");
        EasyToHard x = Check.typed(3, "a<b;b<c");
        int[] isState = {1, 1, 0, 1, 0, 0, 0, 1};
        for (int beyond = 0; beyond <= 120; beyond += 8) {
            for (int set = 0; set < 8; set++) {
                C.due("next(" + (beyond + set) + ", 2)", x.next(beyond + set, 2), isState[set]);
            }
            C.due("next(" + (beyond + 1) + ", 0)", x.next(beyond + 1, 0), 2);
            C.due("next(" + (beyond + 3) + ", 1)", x.next(beyond + 3, 1), 2);
        }
        C.due("next to the greatest", x.next(127, 0), 0);
        C.due("last of the greatest", x.next(127, 1), 4);
    }

    private static void wrongNext() {
        C.says(21, "BAD.");
        EasyToHard x = new EasyToHard();
        int[][] wrong = {{-1, 0}, {128, 0}, {-1, 2}, {128, 2}, {0, -1}, {0, 3}, {LEAST, 0}, {MOST, 0}, {0, LEAST}, {0, MOST}};
        for (int[] w : wrong) {
            C.bad("next(" + w[0] + ", " + w[1] + ")", x.next(w[0], w[1]));
        }
    }

    private static void paths() {
        C.says(22, "PATHS.");
        int[] all = {0, 0, 2, 6, 24, 120, 720, 5040};
        EasyToHard x = new EasyToHard();
        for (int n = 2; n <= 7; n++) {
            x.set(0, n);
            C.due("without needs, n of " + n, x.paths(), all[n]);
        }
        Check.type(x, "a<b");
        C.due("half of them", x.paths(), 2520);
        x.type(';');
        C.due("with a fault", x.paths(), 5040);
    }

    private static void deep() {
        for (int n = 2; n <= 7; n++) {
            EasyToHard x = Check.typed(n, CHAIN);
            C.says(23, "DEEP.");
            C.due("the first, n of " + n, x.deep(0), 1);
            C.due("the last, n of " + n, x.deep(n - 1), n);
            C.says(23, "BAD.");
            for (int question : new int[] {-1, n, LEAST, MOST}) {
                C.bad("deep(" + question + "), n of " + n, x.deep(question));
            }
        }
    }
}
