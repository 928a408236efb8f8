/** The document's sentences on being sure, chances and lessons, at their edges; promises 24 to 28. */
public final class EdgesOfChancesTest {
    private static final Check C = new Check();
    private static final int LEAST = Integer.MIN_VALUE, MOST = Integer.MAX_VALUE, NONE = EasyToHard.NONE;
    private static final int NOT = EasyToHard.NOT, FULL = EasyToHard.FULL;
    private static final String CHAIN = "a<b;b<c;c<d;d<e;e<f;f<g";

    public static void main(String[] args) {
        someQuestionsAndNotOthers();
        fewestInAnyCase();
        noSuchState();
        moreThanFourteen();
        firstToAsk();
        noneToAsk();
        chanceOfEachAnswer();
        sixteenths();
        chancesMultiplied();
        shareOfAState();
        sharesOfNothing();
        likeliestState();
        learnsWhatIsNext();
        fromWhereOneBelongs();
        bestLessons();
        leastRowOfLessons();
        sure();
        wrongSure();
        chance();
        share();
        stateOfShare();
        likeliest();
        lessons();
        wrongLessons();
        C.finish();
    }

    private static EasyToHard told(int n, String text, String... rows) {
        EasyToHard x = Check.typed(n, text);
        Check.tell(x, 0, rows);
        return x;
    }

    private static void sureIs(EasyToHard x, int has, int hasNot, int number, int first) {
        C.due("sure(" + has + ", " + hasNot + ", 0)", x.sure(has, hasNot, 0), number);
        C.due("sure(" + has + ", " + hasNot + ", 1)", x.sure(has, hasNot, 1), first);
    }

    private static void someQuestionsAndNotOthers() {
        C.says(0, "SURE: who is in one of those STATES that have some QUESTIONS (bits), and not some others (bits),");
        EasyToHard x = Check.typed(3, "a<b");
        sureIs(x, 0, 0, 3, 0);
        sureIs(x, 1, 0, 2, 1);
        sureIs(x, 2, 0, 1, 2);
        sureIs(x, 0, 1, 1, 2);
        sureIs(x, 0, 2, 2, 0);
        sureIs(x, 0, 4, 2, 0);
        sureIs(x, 1, 2, 1, 2);
        sureIs(x, 4, 2, 1, 0);
        sureIs(x, 7, 0, 0, NONE);
        sureIs(x, 0, 7, 0, NONE);
    }

    private static void fewestInAnyCase() {
        C.says(0, "the fewest questions by which one is sure of the STATE in any case;");
        for (int n = 2; n <= 7; n++) {
            int[] want = {0, 0, 2, 2, 3, 3, 3, 3};
            C.due("a chain of " + n, Check.typed(n, CHAIN).sure(0, 0, 0), want[n]);
        }
        C.says(0, "is asked, one QUESTION behind the other, each by what was answered, and answers as the STATE is:");
        C.due("not all seven of a chain", Check.typed(7, CHAIN).sure(0, 0, 0), 3);
        C.due("all sets of two", Check.typed(2, "").sure(0, 0, 0), 2);
        C.due("all sets of three", Check.typed(3, "").sure(0, 0, 0), 3);
        C.due("seven that three do not tell apart", Check.typed(4, "a<d;b<d;a<c;b<c").sure(0, 0, 0), 4);
        C.due("each by what was answered", Check.typed(4, "a<b;a<c;c<d").sure(0, 0, 0), 3);
    }

    private static void noSuchState() {
        C.says(0, "NOT: there is no such STATE;");
        EasyToHard x = Check.typed(7, CHAIN);
        sureIs(x, 1, 1, NOT, NOT);
        sureIs(x, 127, 127, NOT, NOT);
        sureIs(x, 2, 1, NOT, NOT);
        sureIs(x, 64, 32, NOT, NOT);
        sureIs(x, 64, 0, 0, NONE);
        sureIs(x, 32, 64, 0, NONE);
        sureIs(Check.typed(7, ""), 8, 8, NOT, NOT);
    }

    private static void moreThanFourteen() {
        C.says(0, "FULL: more than 14.");
        EasyToHard x = Check.typed(5, "a<b;b<c;a<d");
        C.due("fourteen states", x.states(NONE), 14);
        sureIs(x, 0, 0, 4, 1);
        EasyToHard y = Check.typed(6, "a<b;c<d;d<e;e<f");
        C.due("fifteen states", y.states(NONE), 15);
        sureIs(y, 0, 0, FULL, FULL);
        sureIs(y, 1, 0, 4, 1);
        EasyToHard z = Check.typed(6, "a<b;b<c;a<d");
        C.due("twice fourteen", z.states(NONE), 28);
        sureIs(z, 0, 0, FULL, FULL);
        sureIs(z, 32, 0, 4, 1);
        sureIs(z, 0, 32, 4, 1);
        EasyToHard w = Check.typed(7, "a<b;c<d;d<e;e<f");
        sureIs(w, 64, 0, FULL, FULL);
        sureIs(w, 0, 64, FULL, FULL);
        EasyToHard all = Check.typed(7, "");
        sureIs(all, 0, 0, FULL, FULL);
        sureIs(all, 7, 0, FULL, FULL);
        sureIs(all, 15, 0, 3, 4);
    }

    private static void firstToAsk() {
        C.says(0, "The FIRST to ask then, of like ones the least;");
        C.due("any of three", Check.typed(3, "").sure(0, 0, 1), 0);
        C.due("the middle of eight", Check.typed(7, CHAIN).sure(0, 0, 1), 3);
        C.due("of seven any that leaves four at most", Check.typed(6, CHAIN).sure(0, 0, 1), 2);
        C.due("of six likewise", Check.typed(5, CHAIN).sure(0, 0, 1), 1);
        C.due("of five any", Check.typed(4, CHAIN).sure(0, 0, 1), 0);
        C.due("the last alone", Check.typed(7, CHAIN).sure(63, 0, 1), 6);
        C.due("a does not do", Check.typed(5, "c<d;c<e;b<d;a<c;a<b;b<e").sure(0, 0, 1), 1);
    }

    private static void noneToAsk() {
        C.says(0, "NONE: none is needed.");
        EasyToHard x = Check.typed(3, "a<b;b<c");
        for (int state : new int[] {0, 1, 3, 7}) {
            sureIs(x, state, 7 - state, 0, NONE);
        }
        sureIs(x, 4, 0, 0, NONE);
        sureIs(x, 0, 1, 0, NONE);
        sureIs(x, 2, 0, 1, 2);
    }

    private static void chanceIs(EasyToHard x, int set, int slip, int luck, long above, long below) {
        String call = "chance(0, " + set + ", " + slip + ", " + luck + ", ";
        C.due(call + "0)", x.chance(0, set, slip, luck, 0), above);
        C.due(call + "1)", x.chance(0, set, slip, luck, 1), below);
    }

    private static void chanceOfEachAnswer() {
        C.says(0, "CHANCE of a PUPIL's ANSWERS in a SET: for each yes or no: "
                + "in it: no by SLIP, else yes; not in it: yes by LUCK, else no");
        EasyToHard yes = told(2, "", "1");
        chanceIs(yes, 1, 3, 5, 13, 16);
        chanceIs(yes, 0, 3, 5, 5, 16);
        EasyToHard no = told(2, "", "0");
        chanceIs(no, 1, 3, 5, 3, 16);
        chanceIs(no, 0, 3, 5, 11, 16);
        EasyToHard none = Check.typed(2, "");
        none.answer(0, 0, 2, 0);
        chanceIs(none, 0, 3, 5, 1, 1);
        chanceIs(none, 3, 16, 16, 1, 1);
    }

    private static void sixteenths() {
        C.says(0, "(sixteenths, 0 to 16, SLIP, LUCK told): multiplied; a FRACTION.");
        EasyToHard x = told(2, "", "10");
        chanceIs(x, 1, 0, 0, 1, 1);
        chanceIs(x, 1, 16, 0, 0, 1);
        chanceIs(x, 1, 0, 16, 0, 1);
        chanceIs(x, 1, 15, 15, 1, 256);
        chanceIs(x, 1, 1, 1, 225, 256);
        chanceIs(x, 2, 16, 16, 1, 1);
        chanceIs(x, 2, 16, 0, 0, 1);
        chanceIs(x, 0, 7, 16, 0, 1);
        chanceIs(x, 3, 8, 0, 1, 4);
        chanceIs(x, 0, 0, 8, 1, 4);
        for (int wrong : new int[] {-1, 17, LEAST, MOST}) {
            C.due("slip of " + wrong, x.chance(0, 1, wrong, 0, 0), Check.BAD_LONG);
            C.due("luck of " + wrong, x.chance(0, 1, 0, wrong, 0), Check.BAD_LONG);
        }
    }

    private static void chancesMultiplied() {
        C.says(0, "multiplied; a FRACTION.");
        EasyToHard x = told(7, "", "1111111");
        chanceIs(x, 127, 1, 0, 170859375L, 268435456L);
        chanceIs(x, 0, 0, 1, 1, 268435456L);
        chanceIs(x, 0, 0, 0, 0, 1);
        chanceIs(x, 127, 0, 0, 1, 1);
        chanceIs(x, 63, 2, 3, 352947, 4194304);
        chanceIs(x, 127, 8, 0, 1, 128);
        x.set(0, 6);
        chanceIs(x, 127, 1, 0, 11390625, 16777216);
    }

    private static void shareIs(EasyToHard x, int set, int slip, int luck, long above, long below) {
        String call = "share(0, " + set + ", " + slip + ", " + luck + ", ";
        C.due(call + "0)", x.share(0, set, slip, luck, 0), above);
        C.due(call + "1)", x.share(0, set, slip, luck, 1), below);
    }

    private static void shareOfAState() {
        C.says(0, "SHARE of a STATE: its CHANCE by that of all STATES together;");
        EasyToHard x = told(2, "a<b", "01");
        // In 256ths: nothing 12 * 4, a 2 * 4, both 2 * 14.
        shareIs(x, 0, 2, 4, 4, 7);
        shareIs(x, 1, 2, 4, 2, 21);
        shareIs(x, 3, 2, 4, 1, 3);
        shareIs(x, 0, 0, 4, 1, 1);
        shareIs(x, 3, 0, 4, 0, 1);
        EasyToHard y = told(7, "", "1111111");
        shareIs(y, 127, 1, 1, 170859375L, 268435456L);
        shareIs(y, 0, 1, 1, 1, 268435456L);
        shareIs(y, 0, 0, 0, 0, 1);
        shareIs(y, 127, 0, 0, 1, 1);
        // Each question 16 or 15 of 16: together 31 to the seventh, more than an int holds.
        shareIs(y, 127, 0, 15, 268435456L, 27512614111L);
        shareIs(y, 0, 0, 15, 170859375L, 27512614111L);
        shareIs(y, 127, 0, 16, 1, 128);
        EasyToHard z = Check.typed(7, "");
        shareIs(z, 127, 16, 16, 1, 128);
        EasyToHard w = Check.typed(7, CHAIN);
        shareIs(w, 127, 0, 0, 1, 8);
    }

    private static void sharesOfNothing() {
        C.says(0, "NOT: these are 0.");
        EasyToHard x = told(2, "a<b", "01");
        for (int state : new int[] {0, 1, 3}) {
            shareIs(x, state, 0, 0, Check.NOT_LONG, Check.NOT_LONG);
        }
        EasyToHard y = told(2, "", "1");
        shareIs(y, 0, 16, 0, Check.NOT_LONG, Check.NOT_LONG);
        shareIs(y, 1, 16, 0, Check.NOT_LONG, Check.NOT_LONG);
        shareIs(y, 1, 15, 0, 1, 2);
        shareIs(y, 0, 16, 1, 1, 2);
        y.answer(0, 0, 0, 1);
        shareIs(y, 1, 0, 16, Check.NOT_LONG, Check.NOT_LONG);
        shareIs(y, 1, 1, 16, 1, 2);
    }

    private static void likeliestState() {
        C.says(0, "LIKELIEST: the STATE with the greatest CHANCE, of like ones the least.");
        EasyToHard x = told(2, "a<b", "01", "11", "10");
        C.due("luck and a slip alike", x.likeliest(0, 5, 5), 0);
        C.due("a slip is likelier", x.likeliest(0, 6, 5), 3);
        C.due("luck is likelier", x.likeliest(0, 5, 6), 0);
        C.due("all are 0", x.likeliest(0, 0, 0), 0);
        C.due("as answered", x.likeliest(1, 7, 8), 3);
        C.due("half and half", x.likeliest(1, 8, 8), 0);
        C.due("always a slip", x.likeliest(1, 16, 16), 0);
        C.due("a, sure", x.likeliest(2, 0, 0), 1);
        C.due("nothing said", x.likeliest(11, 3, 3), 0);
        EasyToHard y = told(7, "", "1111111");
        C.due("all of seven", y.likeliest(0, 1, 1), 127);
        EasyToHard z = told(7, CHAIN, "0001111");
        C.due("three slips are likelier than four times luck", z.likeliest(0, 2, 3), 127);
        C.due("not with fewer slips", z.likeliest(0, 1, 3), 0);
        C.due("nor with more luck", z.likeliest(0, 2, 4), 0);
    }

    private static void lessonsAre(EasyToHard x, int most, int... row) {
        int k = row.length;
        C.due("lessons(" + k + ", -1)", x.lessons(k, NONE), most);
        for (int i = 0; i < k; i++) {
            C.due("lessons(" + k + ", " + i + ")", x.lessons(k, i), row[i]);
        }
        C.bad("lessons(" + k + ", " + k + ")", x.lessons(k, k));
    }

    private static void learnsWhatIsNext() {
        C.says(0, "LESSONS: 0 to 4, a QUESTION each, one behind the other;");
        EasyToHard x = told(7, CHAIN, "0000000");
        lessonsAre(x, 0);
        lessonsAre(x, 1, 0);
        lessonsAre(x, 2, 0, 1);
        lessonsAre(x, 3, 0, 1, 2);
        lessonsAre(x, 4, 0, 1, 2, 3);
        C.bad("five", x.lessons(5, NONE));
        EasyToHard y = told(3, "c<b;b<a", "000");
        lessonsAre(y, 1, 2);
        lessonsAre(y, 2, 2, 1);
        lessonsAre(y, 3, 2, 1, 0);
        lessonsAre(y, 3, 0, 2, 1, 0);
    }

    private static void fromWhereOneBelongs() {
        C.says(0, "a PUPIL, who BELONGS to a STATE at first, learns it, if it is NEXT to what one has then.");
        EasyToHard x = told(3, "a<b;b<c", "011");
        C.due("belongs to all", x.belongs(0, 0), 7);
        lessonsAre(x, 0, 0);
        EasyToHard y = told(3, "a<b;b<c", "001");
        C.due("belongs to nothing", y.belongs(0, 0), 0);
        lessonsAre(y, 3, 0, 1, 2);
        EasyToHard z = told(3, "a<b;b<c", "110");
        lessonsAre(z, 1, 2);
        lessonsAre(z, 1, 0, 2);
        EasyToHard w = told(2, "", "11");
        lessonsAre(w, 0, 0, 0, 0, 0);
    }

    private static void bestLessons() {
        C.says(0, "BEST LESSONS: the row of k by which the most is learnt, by all PUPILS who gave some ANSWER, together;");
        EasyToHard x = Check.typed(3, "");
        lessonsAre(x, 0, 0, 0);
        x.answer(0, 0, 2, 0);
        x.answer(1, 3, 0, 0);
        lessonsAre(x, 0, 0, 0);
        x.answer(11, 2, 0, 0);
        lessonsAre(x, 1, 0);
        lessonsAre(x, 2, 0, 1);
        lessonsAre(x, 3, 0, 0, 1, 2);
        EasyToHard y = told(7, "", "0", "0", "0", "0", "0", "0", "0", "0", "0", "0", "0", "0");
        lessonsAre(y, 48, 0, 1, 2, 3);
        EasyToHard z = told(3, "", "110", "110", "011");
        lessonsAre(z, 2, 2);
        lessonsAre(z, 3, 0, 2);
    }

    private static void leastRowOfLessons() {
        C.says(0, "of like ones the least row; how much that is.");
        EasyToHard x = told(3, "", "110", "101", "011");
        lessonsAre(x, 1, 0);
        lessonsAre(x, 2, 0, 1);
        lessonsAre(x, 3, 0, 1, 2);
        lessonsAre(x, 3, 0, 0, 1, 2);
        EasyToHard y = told(2, "b<a", "00");
        lessonsAre(y, 2, 1, 0);
        lessonsAre(y, 2, 0, 1, 0);
        lessonsAre(y, 2, 0, 0, 1, 0);
    }

    private static void sure() {
        C.says(24, "SURE: how many (what = 0), the FIRST (1; NONE).");
        EasyToHard x = Check.typed(3, "a<b;b<c");
        sureIs(x, 0, 0, 2, 1);
        sureIs(x, 7, 0, 0, NONE);
        C.says(24, "(bits 0 to 127, of n on do not count);");
        sureIs(x, 120, 0, 2, 1);
        sureIs(x, 0, 120, 2, 1);
        sureIs(x, 120, 120, 2, 1);
        sureIs(x, 127, 0, 0, NONE);
        sureIs(x, 0, 127, 0, NONE);
        sureIs(x, 127, 120, 0, NONE);
        x.set(0, 4);
        sureIs(x, 8, 8, NOT, NOT);
        sureIs(x, 8, 0, 2, 1);
        C.says(24, "NOT; FULL.");
        EasyToHard y = Check.typed(4, "");
        sureIs(y, 1, 1, NOT, NOT);
        sureIs(y, 0, 0, FULL, FULL);
        sureIs(y, 1, 0, 3, 1);
    }

    private static void wrongSure() {
        C.says(24, "BAD");
        int[][] wrong = {{-1, 0, 0}, {128, 0, 0}, {0, -1, 0}, {0, 128, 0}, {0, 0, -1}, {0, 0, 2}, {1, 1, 2}, {1, 1, -1},
            {LEAST, 0, 0}, {MOST, 0, 0}, {0, LEAST, 0}, {0, MOST, 0}, {0, 0, LEAST}, {0, 0, MOST}, {129, 1, 0}};
        EasyToHard few = Check.typed(3, "");
        EasyToHard many = Check.typed(7, "");
        for (int[] w : wrong) {
            C.bad("sure of " + java.util.Arrays.toString(w), few.sure(w[0], w[1], w[2]));
            C.bad("ahead of FULL: " + java.util.Arrays.toString(w), many.sure(w[0], w[1], w[2]));
        }
    }

    private static void chance() {
        C.says(25, "CHANCE: above, below.");
        EasyToHard x = told(2, "", "1");
        chanceIs(x, 1, 2, 0, 7, 8);
        C.due("of the last pupil", x.chance(11, 1, 2, 0, 1), 1);
        C.due("in the greatest set", x.chance(0, 127, 2, 0, 0), 7);
        C.says(25, "BAD. (As the least long.)");
        int[][] wrong = {{-1, 0, 0, 0, 0}, {12, 0, 0, 0, 0}, {0, -1, 0, 0, 0}, {0, 128, 0, 0, 0}, {0, 0, -1, 0, 0},
            {0, 0, 17, 0, 0}, {0, 0, 0, -1, 0}, {0, 0, 0, 17, 0}, {0, 0, 0, 0, -1}, {0, 0, 0, 0, 2}, {LEAST, 0, 0, 0, 0},
            {MOST, 0, 0, 0, 0}, {0, LEAST, 0, 0, 0}, {0, MOST, 0, 0, 0}, {0, 0, 0, 0, LEAST}, {0, 0, 0, 0, MOST}};
        for (int[] w : wrong) {
            C.due("chance of " + java.util.Arrays.toString(w), x.chance(w[0], w[1], w[2], w[3], w[4]), Long.MIN_VALUE + 2);
        }
    }

    private static void share() {
        C.says(26, "SHARE: above, below.");
        EasyToHard x = told(2, "a<b", "01");
        shareIs(x, 0, 2, 4, 4, 7);
        C.due("of the last pupil", x.share(11, 3, 16, 16, 1), 3);
        C.says(26, "NOT. (As the least long.)");
        C.due("all are 0", x.share(0, 3, 0, 0, 0), Long.MIN_VALUE + 3);
        C.says(26, "BAD:");
        int[][] wrong = {{-1, 0, 0, 0, 0}, {12, 0, 0, 0, 0}, {0, -1, 0, 0, 0}, {0, 128, 0, 0, 0}, {0, 0, -1, 0, 0},
            {0, 0, 17, 0, 0}, {0, 0, 0, -1, 0}, {0, 0, 0, 17, 0}, {0, 0, 0, 0, -1}, {0, 0, 0, 0, 2}, {LEAST, 0, 0, 0, 0},
            {MOST, 0, 0, 0, 0}, {0, LEAST, 0, 0, 0}, {0, MOST, 0, 0, 0}, {0, 0, LEAST, 0, 0}, {0, 0, 0, MOST, 0}};
        for (int[] w : wrong) {
            C.due("share of " + java.util.Arrays.toString(w), x.share(w[0], w[1], w[2], w[3], w[4]), Long.MIN_VALUE + 2);
        }
    }

    private static void stateOfShare() {
        C.says(26, "also a SET that is no STATE;");
        EasyToHard x = told(2, "a<b", "01");
        C.due("b without a", x.share(0, 2, 2, 4, 0), Check.BAD_LONG);
        C.due("b without a, below", x.share(0, 2, 2, 4, 1), Check.BAD_LONG);
        C.due("goes ahead of NOT", x.share(0, 2, 0, 0, 0), Check.BAD_LONG);
        x.set(3, 1);
        shareIs(x, 2, 0, 0, 1, 1);
        C.due("a without b, as is found", x.share(0, 1, 2, 4, 0), Check.BAD_LONG);
    }

    private static void likeliest() {
        C.says(27, "LIKELIEST.");
        EasyToHard x = told(2, "", "10");
        C.due("as answered", x.likeliest(0, 2, 3), 1);
        C.due("all wrong", x.likeliest(0, 16, 16), 2);
        C.due("of the last pupil", x.likeliest(11, 16, 16), 0);
        C.says(27, "BAD.");
        int[][] wrong = {{-1, 0, 0}, {12, 0, 0}, {0, -1, 0}, {0, 17, 0}, {0, 0, -1}, {0, 0, 17}, {LEAST, 0, 0}, {MOST, 0, 0},
            {0, LEAST, 0}, {0, MOST, 0}, {0, 0, LEAST}, {0, 0, MOST}};
        for (int[] w : wrong) {
            C.bad("likeliest of " + java.util.Arrays.toString(w), x.likeliest(w[0], w[1], w[2]));
        }
    }

    private static void lessons() {
        C.says(28, "What is learnt by k BEST LESSONS (i = NONE), the i-th of these.");
        EasyToHard x = told(7, "g<f;f<e;e<d", "0001111", "0000000");
        lessonsAre(x, 0);
        lessonsAre(x, 2, 0);
        lessonsAre(x, 4, 0, 1);
        lessonsAre(x, 6, 0, 1, 2);
        lessonsAre(x, 7, 0, 1, 2, 6);
        EasyToHard nobody = Check.typed(7, "");
        lessonsAre(nobody, 0, 0, 0, 0, 0);
    }

    private static void wrongLessons() {
        C.says(28, "BAD.");
        EasyToHard x = told(3, "", "0");
        for (int k : new int[] {-1, 5, LEAST, MOST}) {
            C.bad("lessons(" + k + ", -1)", x.lessons(k, NONE));
            C.bad("lessons(" + k + ", 0)", x.lessons(k, 0));
        }
        for (int k = 0; k <= 4; k++) {
            for (int i : new int[] {-2, k, k + 1, LEAST, MOST}) {
                C.bad("lessons(" + k + ", " + i + ")", x.lessons(k, i));
            }
        }
    }
}
