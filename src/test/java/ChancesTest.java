/** Promises 24 to 28: sure, chance, share, likeliest, lessons. */
public final class ChancesTest {
    private static final Check C = new Check();

    public static void main(String[] args) {
        sureOfChains();
        sureOfSome();
        sureAtTheBound();
        wrongSure();
        chances();
        wrongChances();
        shares();
        wrongShares();
        likeliest();
        lessons();
        leastLessons();
        lessonsOfWhomTheyReach();
        wrongLessons();
        C.finish();
    }

    private static void sureOfChains() {
        EasyToHard x = new EasyToHard();
        x.set(0, 7);
        Check.type(x, "a<b;b<c;c<d;d<e;e<f;f<g");
        C.due("eight in a chain", x.sure(0, 0, 0), 3);
        C.due("the middle first", x.sure(0, 0, 1), 3);
        C.due("seven of them", x.sure(1, 0, 0), 3);
        C.due("of like ones the least", x.sure(1, 0, 1), 3);
        C.due("five of them", x.sure(7, 0, 1), 3);
        C.due("three of them", x.sure(31, 0, 0), 2);
        C.due("two of them", x.sure(63, 0, 0), 1);
        C.due("which tells them apart", x.sure(63, 0, 1), 6);
        C.due("one alone", x.sure(64, 0, 0), 0);
        C.due("none to ask", x.sure(64, 0, 1), EasyToHard.NONE);
        C.due("none such", x.sure(64, 1, 0), EasyToHard.NOT);
        C.due("none such, first", x.sure(64, 1, 1), EasyToHard.NOT);
        C.due("has and has not", x.sure(1, 1, 0), EasyToHard.NOT);
        C.due("only nothing", x.sure(0, 1, 0), 0);
    }

    private static void sureOfSome() {
        EasyToHard x = new EasyToHard();
        x.set(0, 3);
        C.due("eight without order", x.sure(0, 0, 0), 3);
        C.due("any first", x.sure(0, 0, 1), 0);
        C.due("a is known", x.sure(1, 0, 1), 1);
        C.due("a is known not to be", x.sure(0, 1, 0), 2);
        C.due("bits of n on do not count", x.sure(120, 0, 0), 3);
        C.due("nor in the others", x.sure(0, 127 - 7, 0), 3);
        C.due("all but them", x.sure(127, 0, 0), 0);
        x.set(0, 4);
        Check.type(x, "a<d;b<d;a<c;b<c");
        C.due("seven that no three questions tell apart", x.sure(0, 0, 0), 4);
        C.due("any first of those", x.sure(0, 0, 1), 0);
        C.due("five of them", x.sure(1, 0, 0), 3);
        x.wipe();
        x.set(0, 5);
        Check.type(x, "c<d;c<e;b<d;a<c;a<b;b<e");
        C.due("eight that no three tell apart", x.sure(0, 0, 0), 4);
        C.due("a does not do first", x.sure(0, 0, 1), 1);
    }

    private static void sureAtTheBound() {
        EasyToHard x = new EasyToHard();
        Check.type(x, "a<b;b<c;a<d");
        C.due("14 states", x.states(-1), 14);
        C.due("are not too many", x.sure(0, 0, 0), 4);
        x.wipe();
        Check.type(x, "a<b");
        x.set(0, 4);
        C.due("12 states", x.sure(0, 0, 0), 4);
        x.wipe();
        C.due("16 states", x.sure(0, 0, 0), EasyToHard.FULL);
        C.due("16 states, first", x.sure(0, 0, 1), EasyToHard.FULL);
        C.due("8 of 16", x.sure(8, 0, 0), 3);
        EasyToHard y = new EasyToHard();
        Check.type(y, "a<b;b<c;d<e");
        y.set(0, 6);
        C.due("24 states", y.states(-1), 24);
        C.due("are too many", y.sure(0, 0, 0), EasyToHard.FULL);
        C.due("12 of these", y.sure(0, 32, 0), 4);
    }

    private static void wrongSure() {
        EasyToHard x = new EasyToHard();
        int[][] wrong = {{-1, 0, 0}, {128, 0, 0}, {0, -1, 0}, {0, 128, 0}, {0, 0, -1}, {0, 0, 2}, {1, 1, 2}};
        for (int[] w : wrong) {
            C.due("sure of " + java.util.Arrays.toString(w), x.sure(w[0], w[1], w[2]), EasyToHard.BAD);
        }
    }

    private static void chance(EasyToHard x, int[] of, long above, long below) {
        String call = "chance of " + java.util.Arrays.toString(of);
        C.due(call, x.chance(of[0], of[1], of[2], of[3], 0), above);
        C.due(call + " below", x.chance(of[0], of[1], of[2], of[3], 1), below);
    }

    private static void chances() {
        EasyToHard x = new EasyToHard();
        Check.tell(x, 0, "10", "11", "0-0--1", "-----11");
        chance(x, new int[] {0, 1, 2, 3}, 91, 128);
        chance(x, new int[] {0, 2, 2, 3}, 3, 128);
        chance(x, new int[] {0, 0, 2, 3}, 39, 256);
        chance(x, new int[] {0, 3, 2, 3}, 7, 64);
        chance(x, new int[] {0, 127, 2, 3}, 7, 64);
        chance(x, new int[] {0, 1, 0, 0}, 1, 1);
        chance(x, new int[] {0, 0, 0, 0}, 0, 1);
        chance(x, new int[] {0, 2, 16, 16}, 1, 1);
        chance(x, new int[] {0, 1, 16, 16}, 0, 1);
        chance(x, new int[] {2, 1, 8, 4}, 3, 8);
        chance(x, new int[] {3, 96, 1, 1}, 1, 1);
        chance(x, new int[] {11, 0, 16, 16}, 1, 1);
        x.set(0, 7);
        chance(x, new int[] {3, 96, 1, 1}, 225, 256);
        Check.tell(x, 1, "1111111");
        chance(x, new int[] {0, 127, 1, 0}, 170859375L, 268435456L);
        chance(x, new int[] {0, 0, 0, 1}, 1, 268435456L);
    }

    private static void wrongChances() {
        EasyToHard x = new EasyToHard();
        int[][] wrong = {{-1, 0, 0, 0, 0}, {12, 0, 0, 0, 0}, {0, -1, 0, 0, 0}, {0, 128, 0, 0, 0}, {0, 0, -1, 0, 0},
            {0, 0, 17, 0, 0}, {0, 0, 0, -1, 0}, {0, 0, 0, 17, 0}, {0, 0, 0, 0, -1}, {0, 0, 0, 0, 2}};
        for (int[] w : wrong) {
            String of = java.util.Arrays.toString(w);
            C.due("chance of " + of, x.chance(w[0], w[1], w[2], w[3], w[4]), Check.BAD_LONG);
            C.due("share of " + of, x.share(w[0], w[1], w[2], w[3], w[4]), Check.BAD_LONG);
            if (w[1] == 0 && w[4] == 0) {
                C.due("likeliest of " + of, x.likeliest(w[0], w[2], w[3]), EasyToHard.BAD);
            }
        }
    }

    private static void shares() {
        EasyToHard x = new EasyToHard();
        x.set(0, 2);
        Check.type(x, "a<b");
        Check.tell(x, 0, "10", "01");
        // The states' chances, in 256ths: nothing 3*13, a 14*13, both 14*2.
        long[][] want = {{0, 13, 83}, {1, 182, 249}, {3, 28, 249}};
        for (long[] w : want) {
            C.due("share of " + w[0], x.share(0, (int) w[0], 2, 3, 0), w[1]);
            C.due("share of " + w[0] + " below", x.share(0, (int) w[0], 2, 3, 1), w[2]);
        }
        C.due("bits of n on do not count", x.share(0, 1 + 64, 2, 3, 0), 182);
        C.due("0 by 1", x.share(0, 0, 0, 0, 0), 0);
        C.due("0 by 1, below", x.share(0, 0, 0, 0, 1), 1);
        C.due("no answers: like shares", x.share(5, 3, 0, 0, 1), 3);
    }

    private static void wrongShares() {
        EasyToHard x = new EasyToHard();
        x.set(0, 2);
        Check.type(x, "a<b");
        Check.tell(x, 0, "01");
        C.due("no state", x.share(0, 2, 2, 3, 0), Check.BAD_LONG);
        C.due("all are 0", x.share(0, 3, 0, 0, 0), Check.NOT_LONG);
        C.due("all are 0, below", x.share(0, 0, 0, 0, 1), Check.NOT_LONG);
        C.due("no state goes ahead of that", x.share(0, 2, 0, 0, 0), Check.BAD_LONG);
    }

    private static void likeliest() {
        EasyToHard x = new EasyToHard();
        x.set(0, 2);
        Check.type(x, "a<b");
        Check.tell(x, 0, "10", "01");
        C.due("as answered", x.likeliest(0, 2, 3), 1);
        C.due("a slip is likelier than luck", x.likeliest(1, 4, 3), 3);
        C.due("luck is likelier than a slip", x.likeliest(1, 3, 4), 0);
        C.due("of like ones the least", x.likeliest(1, 3, 3), 0);
        C.due("all are 0", x.likeliest(1, 0, 0), 0);
        C.due("no answers", x.likeliest(7, 2, 3), 0);
        C.due("always wrong", x.likeliest(0, 16, 16), 0);
        x.wipe();
        C.due("always wrong, without needs", x.likeliest(0, 16, 16), 2);
    }

    private static void lessons() {
        EasyToHard x = new EasyToHard();
        x.set(0, 4);
        Check.type(x, "a<b;b<c");
        Check.tell(x, 0, "1000", "1000", "0000", "1110");
        int[] most = {0, 4, 6, 8, 11};
        int[][] best = {{}, {3}, {1, 3}, {0, 1, 3}, {0, 1, 2, 3}};
        for (int k = 0; k <= 4; k++) {
            C.due("learnt by " + k, x.lessons(k, -1), most[k]);
            for (int i = 0; i < k; i++) {
                C.due("lessons(" + k + ", " + i + ")", x.lessons(k, i), best[k][i]);
            }
        }
    }

    private static void leastLessons() {
        EasyToHard x = new EasyToHard();
        x.set(0, 2);
        Check.tell(x, 0, "11");
        C.due("nothing to learn", x.lessons(4, -1), 0);
        for (int i = 0; i < 4; i++) {
            C.due("the least row", x.lessons(4, i), 0);
        }
        Check.tell(x, 1, "10");
        C.due("one to learn", x.lessons(3, -1), 1);
        int[] want = {0, 0, 1};
        for (int i = 0; i < 3; i++) {
            C.due("as late as may be", x.lessons(3, i), want[i]);
        }
    }

    private static void lessonsOfWhomTheyReach() {
        EasyToHard x = new EasyToHard();
        C.due("nobody answered", x.lessons(4, -1), 0);
        x.answer(0, 0, 0, 0);
        C.due("one did", x.lessons(4, -1), 4);
        x.answer(1, 6, 1, 0);
        C.due("beyond n does not count", x.lessons(4, -1), 4);
        x.answer(2, 1, 2, 0);
        C.due("none is no answer", x.lessons(4, -1), 4);
        x.set(0, 7);
        C.due("within n it does", x.lessons(4, -1), 8);
    }

    private static void wrongLessons() {
        EasyToHard x = new EasyToHard();
        int[][] wrong = {{-1, -1}, {5, -1}, {0, 0}, {2, 2}, {2, -2}, {4, 4}, {5, 0}, {-1, 0}};
        for (int[] w : wrong) {
            C.due("lessons(" + w[0] + ", " + w[1] + ")", x.lessons(w[0], w[1]), EasyToHard.BAD);
        }
        C.due("no lessons", x.lessons(0, -1), 0);
    }
}
