/** Promises 1 to 5: a new object, set, answer, read, said. */
public final class AnswersTest {
    private static final Check C = new Check();

    public static void main(String[] args) {
        newObject();
        settings();
        wrongSettings();
        tellings();
        wrongTellings();
        fullTellings();
        asOf();
        reading();
        readingStops();
        wrongReading();
        C.finish();
    }

    private static void newObject() {
        EasyToHard x = new EasyToHard();
        for (int pupil = 0; pupil < 12; pupil++) {
            for (int question = 0; question < 7; question++) {
                C.due("new: said", x.said(pupil, question), 2);
            }
        }
        int[] counts = {5, 0, 0, 0, 0, 0, 0, 0, 0};
        for (int what = 0; what < counts.length; what++) {
            C.due("new: count(" + what + ")", x.count(what), counts[what]);
        }
        C.due("new: fault", x.fault(), EasyToHard.NONE);
        C.due("new: wipe", x.wipe(), 0);
        for (int s = 0; s < 4; s++) {
            C.due("new: lose(" + s + ")", x.lose(s), -11);
        }
        C.due("new: states", x.states(-1), 32);
    }

    private static void settings() {
        EasyToHard x = new EasyToHard();
        C.due("n at first", x.set(0, 2), 5);
        C.due("n of 2", x.set(0, 7), 2);
        C.due("n of 7", x.set(0, 7), 7);
        C.due("as of at first", x.set(1, 0), 999);
        C.due("as of 0", x.set(1, 999), 0);
        C.due("as of 999", x.set(1, 3), 999);
        C.due("slack at first", x.set(2, 9), 0);
        C.due("slack of 9", x.set(2, 0), 9);
        C.due("which at first", x.set(3, 1), 0);
        C.due("which of 1", x.set(3, 0), 1);
    }

    private static void wrongSettings() {
        EasyToHard x = new EasyToHard();
        int[][] wrong = {{0, 1}, {0, 8}, {0, -1}, {1, -1}, {1, 1000}, {2, -1}, {2, 10}, {3, -1}, {3, 2},
            {-1, 2}, {4, 2}, {Integer.MIN_VALUE, 0}, {Integer.MAX_VALUE, 0}, {0, Integer.MAX_VALUE}};
        for (int[] w : wrong) {
            C.due("set(" + w[0] + ", " + w[1] + ")", x.set(w[0], w[1]), EasyToHard.BAD);
        }
        C.due("n after wrong", x.set(0, 5), 5);
        C.due("as of after wrong", x.set(1, 999), 999);
        C.due("slack after wrong", x.set(2, 0), 0);
        C.due("which after wrong", x.set(3, 0), 0);
    }

    private static void tellings() {
        EasyToHard x = new EasyToHard();
        C.due("first telling", x.answer(0, 0, 1, 0), 1);
        C.due("of the last pupil, to the last question", x.answer(11, 6, 0, 0), 2);
        C.due("told anew", x.answer(0, 0, 0, 0), 3);
        C.due("the same time does", x.answer(0, 1, 2, 0), 4);
        C.due("the last time", x.answer(0, 2, 1, 999), 5);
        C.due("the latest counts", x.said(0, 0), 0);
        C.due("none", x.said(0, 1), 2);
        C.due("yes", x.said(0, 2), 1);
        C.due("said beyond n", x.said(11, 6), 0);
        C.due("of another pupil", x.said(1, 0), 2);
        C.due("told none anew", x.answer(0, 2, 2, 999), 6);
        C.due("none again", x.said(0, 2), 2);
        int[][] wrong = {{-1, 0}, {12, 0}, {0, -1}, {0, 7}};
        for (int[] w : wrong) {
            C.due("said(" + w[0] + ", " + w[1] + ")", x.said(w[0], w[1]), EasyToHard.BAD);
        }
    }

    private static void wrongTellings() {
        EasyToHard x = new EasyToHard();
        x.answer(3, 3, 1, 50);
        int[][] wrong = {{-1, 0, 0, 50}, {12, 0, 0, 50}, {0, -1, 0, 50}, {0, 7, 0, 50}, {0, 0, -1, 50},
            {0, 0, 3, 50}, {0, 0, 0, -1}, {0, 0, 0, 1000}, {0, 0, 0, 49}};
        for (int[] w : wrong) {
            C.due("answer of " + java.util.Arrays.toString(w), x.answer(w[0], w[1], w[2], w[3]), EasyToHard.BAD);
        }
        C.due("tellings after wrong ones", x.count(1), 1);
        C.due("said after wrong ones", x.said(0, 0), 2);
        C.due("a like time", x.answer(0, 0, 0, 50), 2);
    }

    private static void fullTellings() {
        EasyToHard x = new EasyToHard();
        for (int i = 1; i <= 160; i++) {
            C.due("telling " + i, x.answer(i % 12, i % 7, i % 3, i), i);
        }
        C.due("one too many", x.answer(0, 0, 0, 160), EasyToHard.FULL);
        C.due("wrong goes ahead of full", x.answer(0, 0, 0, 159), EasyToHard.BAD);
        C.due("still 160", x.count(1), 160);
        Check.fill(x, 0, 0, 1, 1, 1);
        C.due("reading when full", x.read(0, 0, 160), 0);
        EasyToHard y = new EasyToHard();
        for (int i = 1; i <= 158; i++) {
            y.answer(0, 0, 2, 0);
        }
        Check.fill(y, 0, 2, 1, 0, 1);
        C.due("reading until full", y.read(0, 5, 0), 2);
        C.due("160 then", y.count(1), 160);
        C.due("the last read", y.said(5, 1), 0);
        C.due("the one behind", y.said(5, 2), 2);
    }

    private static void asOf() {
        EasyToHard x = new EasyToHard();
        x.answer(0, 0, 1, 5);
        x.answer(0, 0, 0, 7);
        x.answer(0, 0, 2, 9);
        int[] want = {2, 2, 2, 2, 2, 1, 1, 0, 0, 2, 2};
        for (int time = 10; time >= 0; time--) {
            x.set(1, time);
            C.due("as of " + time, x.said(0, 0), want[time]);
        }
        x.set(1, 9);
        C.due("told later than as of", x.answer(0, 0, 1, 10), 4);
        C.due("does not count", x.said(0, 0), 2);
        x.set(1, 10);
        C.due("counts then", x.said(0, 0), 1);
        C.due("and in errors", x.errors(0, 0), 1);
        x.set(1, 8);
        C.due("no longer in errors", x.errors(0, 1), 1);
    }

    private static void reading() {
        for (int form = 0; form < 3; form++) {
            EasyToHard x = new EasyToHard();
            Check.fill(x, 3, form, 1, 0, 2, 1, 0, 1, 1, 1, 1);
            C.due("seven at most", x.read(3, 11, 999), 7);
            int[] want = {1, 0, 2, 1, 0, 1, 1};
            for (int question = 0; question < 7; question++) {
                C.due("read " + question, x.said(11, question), want[question]);
            }
            C.due("tellings", x.count(1), 7);
            C.due("an empty sheet", x.sheet(0, form, 0), 0);
            C.due("nothing read", x.read(0, 0, 999), 0);
        }
    }

    private static void readingStops() {
        EasyToHard x = new EasyToHard();
        Check.fill(x, 0, 1, 1, -1, 1);
        C.due("stops below 0", x.read(0, 0, 4), 1);
        Check.fill(x, 0, 2, 1, 1, 3, 1);
        C.due("stops above 2", x.read(0, 1, 4), 2);
        C.due("not told beyond", x.said(1, 3), 2);
        Check.fill(x, 0, 0, 200);
        C.due("a byte below 0", x.read(0, 2, 4), 0);
        C.due("three told", x.count(1), 3);
        C.due("the time went on", x.answer(0, 0, 0, 3), EasyToHard.BAD);
    }

    private static void wrongReading() {
        EasyToHard x = new EasyToHard();
        x.answer(0, 0, 0, 10);
        Check.fill(x, 0, 0, 1);
        int[][] wrong = {{-1, 0, 10}, {4, 0, 10}, {0, -1, 10}, {0, 12, 10}, {0, 0, 9}, {0, 0, 1000}, {0, 0, -1},
            {1, 12, 10}, {1, 0, 9}};
        for (int[] w : wrong) {
            C.due("read of " + java.util.Arrays.toString(w), x.read(w[0], w[1], w[2]), EasyToHard.BAD);
        }
        C.due("no finding yet", x.count(8), 0);
        C.due("a lost sheet", x.read(1, 0, 10), -11);
        C.due("a finding", x.count(8), 1);
        C.due("nothing was told", x.count(1), 1);
    }
}
