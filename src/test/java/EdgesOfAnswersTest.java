/** The document's sentences on questions, pupils, answers and settings, at their edges; promises 1 to 5. */
public final class EdgesOfAnswersTest {
    private static final Check C = new Check();
    private static final int LEAST = Integer.MIN_VALUE, MOST = Integer.MAX_VALUE;

    public static void main(String[] args) {
        questions();
        numberOfQuestions();
        pupils();
        questionsOfAnswers();
        times();
        timesInOrder();
        values();
        fullTellings();
        asOfAtFirst();
        latestCounts();
        noneBefore();
        onlyBelowN();
        settingsAtFirst();
        slack();
        whichNeeds();
        newObject();
        set();
        wrongSet();
        answer();
        wrongAnswer();
        readItemByItem();
        readAsLong();
        readUntilFull();
        readNothing();
        readSevenAtMost();
        wrongRead();
        said();
        C.finish();
    }

    private static void questions() {
        C.says(0, "QUESTIONS are 0 (a) to n less 1");
        for (int n = 2; n <= 7; n++) {
            EasyToHard x = Check.of(n);
            C.due("row, the last of " + n, x.row(n - 1), n - 1);
            C.bad("row, beyond " + n, x.row(n));
            C.due("deep, the last of " + n, x.deep(n - 1), 1);
            C.bad("deep, beyond " + n, x.deep(n));
            C.due("without the last of " + n, x.without(n - 1, 0), 0);
            C.bad("without one beyond " + n, x.without(n, 0));
            C.due("needed, the last of " + n, x.needed(n - 1, 0, 0), 0);
            C.bad("needed, beyond " + n, x.needed(n, 0, 0));
        }
        EasyToHard x = Check.of(7);
        Check.type(x, "a<g");
        C.due("a is 0, g is 6", x.needed(0, 6, 0), 1);
        C.due("and not the other way about", x.needed(6, 0, 0), 0);
    }

    private static void numberOfQuestions() {
        C.says(0, "(n 2 to 7; 5 at first)");
        EasyToHard x = new EasyToHard();
        C.due("n at first", x.count(0), 5);
        C.bad("n of 1", x.set(0, 1));
        C.due("n is as it was", x.count(0), 5);
        C.due("n of 2", x.set(0, 2), 5);
        C.due("is taken", x.count(0), 2);
        C.bad("n of 8", x.set(0, 8));
        C.due("n of 7", x.set(0, 7), 2);
        C.due("is taken too", x.count(0), 7);
    }

    private static void pupils() {
        C.says(0, "PUPILS 0 to 11.");
        EasyToHard x = new EasyToHard();
        C.due("the first pupil", x.answer(0, 0, 1, 0), 1);
        C.due("the last pupil", x.answer(11, 0, 1, 0), 2);
        C.due("two pupils", x.count(4), 2);
        for (int pupil : new int[] {-1, 12, LEAST, MOST}) {
            C.bad("answer of " + pupil, x.answer(pupil, 0, 1, 0));
            C.bad("said of " + pupil, x.said(pupil, 0));
            C.bad("errors of " + pupil, x.errors(pupil, 0));
            C.bad("step of " + pupil, x.step(pupil, 0));
            C.bad("belongs of " + pupil, x.belongs(pupil, 0));
            C.bad("likeliest of " + pupil, x.likeliest(pupil, 0, 0));
        }
    }

    private static void questionsOfAnswers() {
        C.says(0, "An ANSWER of a PUPIL to a QUESTION (0 to 6) is told at a TIME");
        EasyToHard x = Check.of(2);
        C.due("to the first", x.answer(4, 0, 1, 0), 1);
        C.due("to the last of all, with n of 2", x.answer(4, 6, 1, 0), 2);
        for (int question : new int[] {-1, 7, LEAST, MOST}) {
            C.bad("to question " + question, x.answer(4, question, 1, 0));
        }
        C.due("two were told", x.count(1), 2);
        x.set(0, 7);
        C.due("that to the last counts with n of 7", x.errors(4, 1), 1);
    }

    private static void times() {
        C.says(0, "(0 to 999;");
        EasyToHard x = new EasyToHard();
        C.bad("the first at -1", x.answer(0, 0, 1, -1));
        C.bad("the first at the least", x.answer(0, 0, 1, LEAST));
        C.bad("the first at 1000", x.answer(0, 0, 1, 1000));
        C.due("none was told", x.count(1), 0);
        C.due("at 0", x.answer(0, 0, 1, 0), 1);
        C.due("at 999", x.answer(0, 1, 1, 999), 2);
        C.bad("at 1000", x.answer(0, 2, 1, 1000));
        C.bad("at the most", x.answer(0, 2, 1, MOST));
    }

    private static void timesInOrder() {
        C.says(0, "not less than that of the one ahead)");
        EasyToHard x = new EasyToHard();
        C.due("the first, at 500", x.answer(0, 0, 1, 500), 1);
        C.bad("at 499", x.answer(0, 0, 0, 499));
        C.bad("at 499, of another pupil to another question", x.answer(7, 3, 0, 499));
        C.due("again at 500", x.answer(7, 3, 0, 500), 2);
        C.due("at 501", x.answer(0, 1, 1, 501), 3);
        C.bad("at 500, behind 501", x.answer(0, 2, 1, 500));
        C.bad("refused at 900", x.answer(12, 0, 1, 900));
        C.due("which is not the one ahead", x.answer(0, 2, 2, 501), 4);
        C.due("none, told at 700", x.answer(0, 6, 2, 700), 5);
        C.bad("is one ahead too", x.answer(0, 2, 2, 699));
        x.set(1, 3);
        C.bad("whatever is set as of", x.answer(0, 2, 2, 699));
        C.due("and a later one is taken", x.answer(0, 2, 2, 701), 6);
    }

    private static void values() {
        C.says(0, ": 0 no, 1 yes, 2 none;");
        EasyToHard x = new EasyToHard();
        for (int v = 0; v <= 2; v++) {
            C.due("told " + v, x.answer(v, 0, v, 0), v + 1);
            C.due("said " + v, x.said(v, 0), v);
        }
        C.due("no is against a set with it", x.errors(0, 1), 1);
        C.due("no is not against one without", x.errors(0, 0), 0);
        C.due("yes is against a set without it", x.errors(1, 0), 1);
        C.due("yes is not against one with it", x.errors(1, 1), 0);
        C.due("none is against no set", x.errors(2, 0) + x.errors(2, 1), 0);
        for (int v : new int[] {-1, 3, LEAST, MOST}) {
            C.bad("told " + v, x.answer(0, 0, v, 0));
        }
        C.due("what was said stays", x.said(0, 0), 0);
    }

    private static EasyToHard withTellings(int number) {
        EasyToHard x = new EasyToHard();
        for (int i = 1; i <= number; i++) {
            x.answer(i % 12, i % 7, i % 2, i);
        }
        return x;
    }

    private static void fullTellings() {
        C.says(0, "160 TELLINGS at most.");
        EasyToHard x = withTellings(159);
        C.due("159 are told", x.count(1), 159);
        C.due("the 160th is taken", x.answer(3, 3, 2, 159), 160);
        C.due("one more is not", x.answer(3, 3, 1, 999), EasyToHard.FULL);
        C.due("160 are told", x.count(1), 160);
        C.due("the last one counts", x.said(3, 3), 2);
        C.due("nor another", x.answer(3, 3, 0, 159), EasyToHard.FULL);
        x.set(1, 0);
        C.due("those that do not count are tellings too", x.answer(3, 3, 1, 999), EasyToHard.FULL);
    }

    private static void asOfAtFirst() {
        C.says(0, "AS OF a TIME (999 at first)");
        EasyToHard x = new EasyToHard();
        x.answer(0, 0, 1, 998);
        x.answer(0, 1, 1, 999);
        C.due("told at 998", x.said(0, 0), 1);
        C.due("told at 999", x.said(0, 1), 1);
        C.due("as of, at first", x.set(1, 998), 999);
        C.due("told later than as of", x.said(0, 1), 2);
    }

    private static void latestCounts() {
        C.says(0, "the latest told up to then counts;");
        EasyToHard x = new EasyToHard();
        x.answer(0, 0, 1, 10);
        x.answer(0, 0, 0, 20);
        x.answer(0, 0, 1, 20);
        x.answer(0, 0, 2, 30);
        int[] asOf = {0, 9, 10, 11, 19, 20, 21, 29, 30, 31, 999};
        int[] want = {2, 2, 1, 1, 1, 1, 1, 1, 2, 2, 2};
        for (int i = 0; i < asOf.length; i++) {
            x.set(1, asOf[i]);
            C.due("said as of " + asOf[i], x.said(0, 0), want[i]);
            C.due("answers as of " + asOf[i], x.count(2), want[i] == 1 ? 1 : 0);
        }
        EasyToHard y = new EasyToHard();
        y.answer(0, 0, 1, 10);
        y.answer(0, 0, 0, 10);
        C.due("of two at one time the latter", y.said(0, 0), 0);
        y.set(1, 10);
        C.due("as of that time too", y.said(0, 0), 0);
        C.due("told when it is later than as of", y.answer(0, 0, 1, 11), 3);
        C.due("it does not count yet", y.said(0, 0), 0);
        C.due("told at what is set as of", y.set(1, 11), 10);
        C.due("it counts then", y.said(0, 0), 1);
        y.answer(5, 5, 1, 11);
        C.due("and what is told at that time, at once", y.said(5, 5), 1);
    }

    private static void noneBefore() {
        C.says(0, "none, before.");
        EasyToHard x = new EasyToHard();
        C.due("nothing told", x.said(0, 0), 2);
        x.answer(0, 0, 0, 5);
        x.set(1, 4);
        C.due("before", x.said(0, 0), 2);
        C.due("no answers before", x.count(2), 0);
        C.due("no errors before", x.errors(0, 1), 0);
        x.set(1, 5);
        C.due("from then on", x.said(0, 0), 0);
        C.due("an error then", x.errors(0, 1), 1);
    }

    private static void onlyBelowN() {
        C.says(0, "Only ANSWERS to QUESTIONS below n count in what follows.");
        EasyToHard x = Check.of(2);
        Check.tell(x, 0, "--1", "--0");
        x.set(3, 1);
        beyond(x);
        x.set(0, 3);
        C.due("errors", x.errors(0, 0), 1);
        C.due("answers", x.count(2), 2);
        C.due("yes", x.count(3), 1);
        C.due("pupils", x.count(4), 2);
        C.due("step", x.step(0, 0), 3);
        C.due("fit", x.fit(0, 0), 1);
        C.due("belongs", x.belongs(0, 0), 4);
        C.due("like states", x.belongs(1, 2), 4);
        C.due("chance", x.chance(0, 0, 1, 1, 1), 16);
        C.due("share", x.share(0, 0, 1, 1, 1), 64);
        C.due("likeliest", x.likeliest(0, 1, 1), 4);
        C.due("lessons", x.lessons(1, -1), 2);
    }

    private static void beyond(EasyToHard x) {
        C.due("told all the same", x.count(1), 2);
        C.due("errors, n of 2", x.errors(0, 0), 0);
        C.due("errors with all, n of 2", x.errors(1, 127), 0);
        for (int what = 2; what <= 4; what++) {
            C.due("count " + what + ", n of 2", x.count(what), 0);
        }
        C.due("step, n of 2", x.step(0, 0), 0);
        C.due("rows, n of 2", x.off(1), 2);
        C.due("fit, n of 2", x.fit(0, 0), Check.NOT_LONG);
        C.due("fit by shares, n of 2", x.fit(1, 0), Check.NOT_LONG);
        C.due("odd, n of 2", x.odd(), EasyToHard.NONE);
        C.due("belongs, n of 2", x.belongs(0, 0), 0);
        C.due("like states, n of 2", x.belongs(1, 2), 4);
        C.due("chance, n of 2", x.chance(0, 0, 1, 1, 1), 1);
        C.due("share, n of 2", x.share(0, 0, 1, 1, 1), 4);
        C.due("likeliest, n of 2", x.likeliest(0, 1, 1), 0);
        C.due("lessons, n of 2", x.lessons(1, -1), 0);
    }

    private static void settingsAtFirst() {
        C.says(0, "SETTINGS: n, AS OF, SLACK (0 to 9; 0 at first), WHICH needs (0 told, 1 found; 0 at first).");
        EasyToHard x = new EasyToHard();
        C.due("slack", x.count(7), 0);
        int[] first = {5, 999, 0, 0};
        int[] other = {2, 0, 9, 1};
        for (int what = 0; what < 4; what++) {
            C.due("setting " + what + " at first", x.set(what, other[what]), first[what]);
        }
        for (int what = 0; what < 4; what++) {
            C.due("setting " + what + " then", x.set(what, first[what]), other[what]);
        }
    }

    private static void slack() {
        C.says(0, "SLACK (0 to 9; 0 at first)");
        EasyToHard x = new EasyToHard();
        C.bad("slack of -1", x.set(2, -1));
        C.bad("slack of 10", x.set(2, 10));
        C.due("slack is as it was", x.count(7), 0);
        C.due("slack of 9", x.set(2, 9), 0);
        C.due("is taken", x.count(7), 9);
        C.bad("slack of 10 again", x.set(2, 10));
        C.due("slack of 0", x.set(2, 0), 9);
        C.due("is taken too", x.count(7), 0);
    }

    private static void whichNeeds() {
        C.says(0, "WHICH needs (0 told, 1 found; 0 at first).");
        EasyToHard x = Check.of(2);
        Check.type(x, "a<b");
        Check.tell(x, 0, "01");
        C.due("by told ones at first", x.next(1, 2), 1);
        C.due("b without a is no state", x.next(2, 2), 0);
        C.bad("which of -1", x.set(3, -1));
        C.bad("which of 2", x.set(3, 2));
        C.due("told ones still", x.next(2, 2), 0);
        C.due("by found ones", x.set(3, 1), 0);
        C.due("b is needed for a", x.next(1, 2), 0);
        C.due("b without a is a state", x.next(2, 2), 1);
        C.due("by told ones again", x.set(3, 0), 1);
        C.due("a is a state again", x.next(1, 2), 1);
    }

    private static void newObject() {
        EasyToHard x = new EasyToHard();
        C.says(1, "No ANSWERS,");
        for (int pupil = 0; pupil < 12; pupil++) {
            for (int question = 0; question < 7; question++) {
                C.due("said(" + pupil + ", " + question + ")", x.said(pupil, question), 2);
            }
        }
        for (int what = 1; what <= 4; what++) {
            C.due("count(" + what + ")", x.count(what), 0);
        }
        C.says(1, "an empty text;");
        C.due("bytes", x.count(5), 0);
        C.due("parts", x.count(6), 0);
        C.due("fault", x.fault(), EasyToHard.NONE);
        C.due("wiped", x.wipe(), 0);
        C.says(1, "all SHEETS are LOST.");
        C.due("no finding yet", x.count(8), 0);
        for (int s = 0; s < 4; s++) {
            C.due("lose(" + s + ")", x.lose(s), -11);
            C.due("write(" + s + ")", x.write(s), -11);
        }
    }

    private static void set() {
        C.says(2, "n (what = 0), AS OF (1), SLACK (2), WHICH (3): what it was.");
        EasyToHard x = new EasyToHard();
        int[][] rows = {{0, 7, 5}, {0, 2, 7}, {0, 2, 2}, {1, 0, 999}, {1, 999, 0}, {1, 999, 999}, {2, 9, 0},
            {2, 0, 9}, {2, 0, 0}, {3, 1, 0}, {3, 0, 1}, {3, 0, 0}};
        for (int[] row : rows) {
            C.due("set(" + row[0] + ", " + row[1] + ")", x.set(row[0], row[1]), row[2]);
        }
    }

    private static void wrongSet() {
        C.says(2, "BAD.");
        EasyToHard x = new EasyToHard();
        int[] now = {4, 6, 3, 1};
        for (int what = 0; what < 4; what++) {
            x.set(what, now[what]);
        }
        int[][] wrong = {{0, 1}, {0, 8}, {1, -1}, {1, 1000}, {2, -1}, {2, 10}, {3, -1}, {3, 2}, {-1, 1}, {4, 1},
            {-1, 5}, {4, 5}, {LEAST, 1}, {MOST, 1}};
        for (int[] w : wrong) {
            C.bad("set(" + w[0] + ", " + w[1] + ")", x.set(w[0], w[1]));
        }
        for (int what = 0; what < 4; what++) {
            C.bad("set(" + what + ", the least)", x.set(what, LEAST));
            C.bad("set(" + what + ", the most)", x.set(what, MOST));
            C.due("setting " + what + " is as it was", x.set(what, now[what]), now[what]);
        }
    }

    private static void answer() {
        C.says(3, "An ANSWER is told: how many TELLINGS.");
        EasyToHard x = new EasyToHard();
        C.due("the first", x.answer(0, 0, 0, 0), 1);
        C.due("the same again", x.answer(0, 0, 0, 0), 2);
        C.due("none", x.answer(0, 0, 2, 0), 3);
        C.due("beyond n", x.answer(0, 6, 1, 0), 4);
        x.set(1, 0);
        C.due("later than as of", x.answer(0, 0, 1, 1), 5);
        C.due("as many", x.count(1), 5);
    }

    private static void wrongAnswer() {
        C.says(3, "BAD: also a TIME less than the one before;");
        int[][] wrong = {{-1, 0, 0, 7}, {12, 0, 0, 7}, {0, -1, 0, 7}, {0, 7, 0, 7}, {0, 0, -1, 7}, {0, 0, 3, 7},
            {0, 0, 0, -1}, {0, 0, 0, 1000}, {0, 0, 0, 6}, {0, 0, 0, 0}};
        EasyToHard x = new EasyToHard();
        x.answer(0, 0, 1, 7);
        for (int[] w : wrong) {
            C.bad("answer of " + java.util.Arrays.toString(w), x.answer(w[0], w[1], w[2], w[3]));
        }
        C.due("one is told", x.count(1), 1);
        C.due("it counts", x.said(0, 0), 1);
        C.says(3, "FULL.");
        EasyToHard y = new EasyToHard();
        for (int i = 0; i < 160; i++) {
            y.answer(0, 0, 1, 7);
        }
        for (int[] w : wrong) {
            C.bad("full: answer of " + java.util.Arrays.toString(w), y.answer(w[0], w[1], w[2], w[3]));
        }
        C.due("one too many", y.answer(0, 0, 0, 7), EasyToHard.FULL);
        C.due("it does not count", y.said(0, 0), 1);
    }

    private static void readItemByItem() {
        C.says(4, "ANSWERS of a PUPIL to QUESTIONS 0 on by a SHEET, item by item,");
        for (int form = 0; form < 3; form++) {
            EasyToHard x = Check.of(2);
            Check.fill(x, 3, form, 1, 0, 2, 1);
            x.answer(11, 2, 1, 4);
            C.due("form " + form, x.read(3, 11, 5), 4);
            int[] want = {1, 0, 2, 1, 2, 2, 2};
            for (int question = 0; question < 7; question++) {
                C.due("question " + question, x.said(11, question), want[question]);
            }
            C.due("each is a telling", x.count(1), 5);
            C.bad("at that time", x.answer(0, 0, 0, 4));
            C.due("of nobody else", x.said(10, 0), 2);
            C.due("the sheet stays", x.get(3, form, 3), 1);
            C.due("and is not lost", x.lose(3), 4);
        }
    }

    private static void readAsLong() {
        C.says(4, "as long as each may be,");
        for (int wrong : new int[] {-1, 3, 4, 256, 65536, LEAST, MOST}) {
            for (int place = 0; place < 7; place++) {
                EasyToHard x = new EasyToHard();
                Check.fill(x, 0, 2, 1, 1, 1, 1, 1, 1, 1);
                x.lay(0, 2, place, wrong);
                C.due(wrong + " at " + place, x.read(0, 0, 0), place);
                C.due("told before it", x.count(1), place);
                C.due("not told", x.said(0, place), 2);
                C.due("nor behind it", x.said(0, 6), 2);
                C.due("no refusal", x.count(8), 0);
            }
        }
    }

    private static void readUntilFull() {
        C.says(4, "as long as each may be,");
        for (int free = 0; free <= 3; free++) {
            EasyToHard x = withTellings(160 - free);
            x.answer(0, 0, 2, 998);
            Check.fill(x, 0, 0, 1, 1);
            int room = Math.max(0, free - 1);
            C.due(room + " free", x.read(0, 5, 999), room);
            C.due("160 told", x.count(1), 160);
            C.due("one more", x.answer(0, 0, 0, 999), EasyToHard.FULL);
        }
    }

    private static void readNothing() {
        C.says(4, "item by item,");
        EasyToHard x = new EasyToHard();
        x.sheet(0, 0, 0);
        C.due("an empty sheet", x.read(0, 0, 500), 0);
        Check.fill(x, 1, 0, 3, 1);
        C.due("the first may not be", x.read(1, 0, 500), 0);
        C.due("nothing is told", x.count(1), 0);
        C.due("so any time may follow", x.answer(0, 0, 1, 0), 1);
    }

    private static void readSevenAtMost() {
        C.says(4, "7 at most: how many.");
        int[] sizes = {0, 1, 6, 7, 8, 59, 60};
        for (int size : sizes) {
            EasyToHard x = new EasyToHard();
            x.sheet(2, 1, size);
            int want = Math.min(7, size);
            C.due(size + " items", x.read(2, 0, 999), want);
            C.due("told of " + size, x.count(1), want);
        }
        EasyToHard x = new EasyToHard();
        Check.fill(x, 0, 2, 0, 1, 2, 0, 1, 2, 1, 99);
        C.due("the eighth is not looked at", x.read(0, 0, 0), 7);
    }

    private static void wrongRead() {
        int[][] wrong = {{-1, 0, 7}, {4, 0, 7}, {LEAST, 0, 7}, {MOST, 0, 7}, {0, -1, 7}, {0, 12, 7}, {0, 0, -1},
            {0, 0, 1000}, {0, 0, 6}};
        EasyToHard x = new EasyToHard();
        x.answer(0, 0, 1, 7);
        Check.fill(x, 0, 0, 0, 0);
        x.sheet(2, 0, 0);
        C.says(4, "BAD: likewise;");
        for (int[] w : wrong) {
            C.bad("read of " + java.util.Arrays.toString(w), x.read(w[0], w[1], w[2]));
        }
        C.bad("too early, with nothing to read", x.read(2, 0, 6));
        C.due("nothing was read", x.count(1), 1);
        C.due("the answer is as it was", x.said(0, 0), 1);
        C.says(4, "NULL.");
        C.due("a lost sheet", x.read(1, 0, 7), -11);
        C.due("is a finding", x.count(8), 1);
        C.bad("a wrong pupil goes ahead of that", x.read(1, 12, 7));
        C.bad("and a wrong time", x.read(1, 0, 6));
        C.due("nothing was read then", x.count(1), 1);
        C.due("at the time of the last one", x.read(0, 0, 7), 2);
    }

    private static void said() {
        EasyToHard x = Check.of(7);
        x.answer(0, 0, 0, 0);
        x.answer(11, 6, 1, 0);
        C.says(5, "The ANSWER of a PUPIL to a QUESTION (0 to 6) that counts: 0, 1, 2.");
        C.due("no", x.said(0, 0), 0);
        C.due("yes, to the last, of the last", x.said(11, 6), 1);
        C.due("none", x.said(11, 0), 2);
        x.set(0, 2);
        C.due("none to one of n on", x.said(0, 6), 2);
        C.says(5, "BAD.");
        int[][] wrong = {{-1, 0}, {12, 0}, {0, -1}, {0, 7}, {LEAST, 0}, {MOST, 0}, {0, LEAST}, {0, MOST}};
        for (int[] w : wrong) {
            C.bad("said(" + w[0] + ", " + w[1] + ")", x.said(w[0], w[1]));
        }
    }
}
