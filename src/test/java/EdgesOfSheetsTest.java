/** The document's sentences on sheets, findings, counts and the digest, at their edges; promises 29 to 36. */
public final class EdgesOfSheetsTest {
    private static final Check C = new Check();
    private static final int LEAST = Integer.MIN_VALUE, MOST = Integer.MAX_VALUE, NONE = EasyToHard.NONE;
    private static final int NULL = -11, INDEX = -12, CAST = -13, STORE = -14, SIZE = -15;

    public static void main(String[] args) {
        sheetsAndForms();
        upToSixtyItems();
        findings();
        sheet();
        wrongSheet();
        lose();
        lowestBits();
        lay();
        wrongLay();
        get();
        wrongGet();
        copy();
        copyWithinOne();
        copyOfNothing();
        wrongCopy();
        copyOfUnlikeForms();
        copyBeyond();
        write();
        wrongWrite();
        counts();
        countsOfAnswers();
        countsOfNeeds();
        countOfFindings();
        wrongCount();
        digest();
        digestAsTold();
        lastOfTheCalls();
        C.finish();
    }

    private static void items(EasyToHard x, int s, int form, int... want) {
        for (int i = 0; i < want.length; i++) {
            C.due("get(" + s + ", " + form + ", " + i + ")", x.get(s, form, i), want[i]);
        }
    }

    private static void sheetsAndForms() {
        C.says(0, "SHEETS 0 .. 3 are LOST (at first) or a row of a FORM: 0 bytes, 1 shorts, 2 ints,");
        EasyToHard x = new EasyToHard();
        for (int s = 0; s < 4; s++) {
            C.due("lost at first: " + s, x.lose(s), NULL);
        }
        for (int s = 0; s < 4; s++) {
            for (int form = 0; form < 3; form++) {
                C.due("sheet(" + s + ", " + form + ", 2)", x.sheet(s, form, 2), 2);
                x.lay(s, form, 1, 98765);
                int[] want = {-51, -32307, 98765};
                C.due("98765 in form " + form, x.get(s, form, 1), want[form]);
                for (int other = 0; other < 3; other++) {
                    C.due("laid as of form " + other, x.lay(s, other, 0, 1), other == form ? 1 : CAST);
                }
            }
        }
        for (int s : new int[] {-1, 4}) {
            C.bad("sheet " + s, x.sheet(s, 0, 1));
        }
    }

    private static void upToSixtyItems() {
        C.says(0, "of 0 to 60 items (0 at first).");
        EasyToHard x = new EasyToHard();
        for (int form = 0; form < 3; form++) {
            C.due("60 items", x.sheet(form, form, 60), 60);
            for (int i = 0; i < 60; i++) {
                C.due("0 at first", x.get(form, form, i), 0);
            }
            C.due("the last", x.lay(form, form, 59, 1), 1);
            C.due("one beyond", x.lay(form, form, 60, 1), INDEX);
            C.bad("61 items", x.sheet(form, form, 61));
            C.due("the sheet is as it was", x.get(form, form, 59), 1);
            C.due("no items", x.sheet(form, form, 0), 0);
            C.due("not even the first", x.lay(form, form, 0, 1), INDEX);
            C.due("60 items again", x.sheet(form, form, 60), 60);
            C.due("0 again", x.get(form, form, 59), 0);
        }
    }

    private static void finding(EasyToHard x, String call, int got, int want) {
        C.due(call, got, want);
        C.due("count(8), " + call, x.count(8), -10 - want);
    }

    private static void findings() {
        C.says(0, "FINDINGS (answers -10 less the number; they change nothing but count() 8):");
        EasyToHard x = new EasyToHard();
        Check.fill(x, 0, 0, 7, 8);
        x.sheet(1, 1, 2);
        C.due("none yet", x.count(8), 0);
        C.says(0, "1 NULL: the SHEET is LOST;");
        finding(x, "lose(3)", x.lose(3), NULL);
        C.says(0, "2 INDEX: there is no such item;");
        finding(x, "lay(0, 0, 2, 1)", x.lay(0, 0, 2, 1), INDEX);
        C.says(0, "3 CAST: it has another FORM;");
        finding(x, "lay(0, 1, 0, 1)", x.lay(0, 1, 0, 1), CAST);
        C.says(0, "4 STORE: unlike FORMS;");
        finding(x, "copy(0, 0, 1, 0, 1)", x.copy(0, 0, 1, 0, 1), STORE);
        C.says(0, "5 SIZE: below 0.");
        finding(x, "sheet(0, 0, -1)", x.sheet(0, 0, -1), SIZE);
        items(x, 0, 0, 7, 8);
        C.due("the other sheet too", x.lose(1), 2);
        C.due("what goes well is no finding", x.count(8), 5);
    }

    private static void sheet() {
        C.says(29, "A SHEET is a new row of a FORM with n items: n.");
        EasyToHard x = new EasyToHard();
        int[][] rows = {{0, 0, 0}, {0, 0, 60}, {3, 2, 1}, {3, 1, 59}, {0, 2, 0}};
        for (int[] w : rows) {
            C.due("sheet of " + java.util.Arrays.toString(w), x.sheet(w[0], w[1], w[2]), w[2]);
            C.due("has as many", x.lose(w[0]), w[2]);
        }
        Check.fill(x, 1, 2, 5, 6, 7);
        C.due("of the same form", x.sheet(1, 2, 3), 3);
        items(x, 1, 2, 0, 0, 0);
        Check.fill(x, 1, 2, 5, 6, 7);
        C.due("of another form, shorter", x.sheet(1, 0, 1), 1);
        C.due("longer again", x.sheet(1, 0, 3), 3);
        items(x, 1, 0, 0, 0, 0);
        Check.fill(x, 1, 2, 5, 6, 7);
        x.lose(1);
        x.sheet(1, 2, 3);
        items(x, 1, 2, 0, 0, 0);
    }

    private static void wrongSheet() {
        EasyToHard x = new EasyToHard();
        Check.fill(x, 0, 0, 7, 8);
        C.says(29, "BAD: SHEET, FORM, above 60;");
        int[][] wrong = {{-1, 0, 1}, {4, 0, 1}, {0, -1, 1}, {0, 3, 1}, {0, 0, 61}, {0, 0, MOST}, {LEAST, 0, 1}, {MOST, 0, 1},
            {0, LEAST, 1}, {0, MOST, 1}, {-1, 0, -1}, {4, 0, -1}, {0, -1, -1}, {0, 3, -1}};
        for (int[] w : wrong) {
            C.bad("sheet of " + java.util.Arrays.toString(w), x.sheet(w[0], w[1], w[2]));
        }
        C.due("no finding", x.count(8), 0);
        C.says(29, "SIZE.");
        C.due("-1 items", x.sheet(0, 1, -1), SIZE);
        C.due("the least number of items", x.sheet(0, 2, LEAST), SIZE);
        C.due("of a lost sheet", x.sheet(3, 0, -1), SIZE);
        C.due("which stays lost", x.lose(3), NULL);
        items(x, 0, 0, 7, 8);
        C.due("two items", x.lose(0), 2);
    }

    private static void lose() {
        EasyToHard x = new EasyToHard();
        C.says(30, "It is LOST: how many items it had.");
        int[] sizes = {0, 1, 59, 60};
        for (int s = 0; s < 4; s++) {
            x.sheet(s, s % 3, sizes[s]);
        }
        for (int s = 0; s < 4; s++) {
            C.due("lose(" + s + ")", x.lose(s), sizes[s]);
            C.due("it is lost", x.write(s), NULL);
            if (s < 3) {
                C.due("the next is not", x.write(s + 1), Math.min(12, sizes[s + 1]));
            }
        }
        C.says(30, "BAD; NULL.");
        for (int s : new int[] {-1, 4, LEAST, MOST}) {
            C.bad("lose(" + s + ")", x.lose(s));
        }
        for (int s = 0; s < 4; s++) {
            C.due("lost already: " + s, x.lose(s), NULL);
        }
    }

    private static void lowestBits() {
        C.says(31, "becomes v (the lowest bits that it has): 1.");
        int[][] want = {{0, 0, 0}, {127, 127, 127}, {128, -128, 128}, {255, -1, 255}, {256, 0, 256}, {-1, -1, -1},
            {-128, -128, -128}, {-129, 127, -129}, {32767, -1, 32767}, {32768, 0, -32768}, {-32768, 0, -32768},
            {-32769, -1, 32767}, {65535, -1, -1}, {65536, 0, 0}, {MOST, -1, -1}, {LEAST, 0, 0}};
        EasyToHard x = new EasyToHard();
        for (int form = 0; form < 3; form++) {
            x.sheet(form, form, 1);
        }
        for (int[] w : want) {
            C.due("a byte", x.lay(0, 0, 0, w[0]), 1);
            C.due("a short", x.lay(1, 1, 0, w[0]), 1);
            C.due("an int", x.lay(2, 2, 0, w[0]), 1);
            C.due(w[0] + " in a byte", x.get(0, 0, 0), w[1]);
            C.due(w[0] + " in a short", x.get(1, 1, 0), w[2]);
            C.due(w[0] + " in an int", x.get(2, 2, 0), w[0]);
        }
    }

    private static void lay() {
        C.says(31, "Item i, treated as of a FORM,");
        for (int form = 0; form < 3; form++) {
            EasyToHard x = new EasyToHard();
            x.sheet(3, form, 3);
            C.due("the first", x.lay(3, form, 0, 5), 1);
            items(x, 3, form, 5, 0, 0);
            C.due("the last", x.lay(3, form, 2, 6), 1);
            items(x, 3, form, 5, 0, 6);
            C.due("anew", x.lay(3, form, 2, -7), 1);
            items(x, 3, form, 5, 0, -7);
        }
    }

    /** Sheet 0 has three shorts, sheet 3 none, the others are lost; with each call which finding is due. */
    private static final int[][] FINDINGS = {{1, 0, 0, NULL}, {1, 2, -1, NULL}, {2, 1, 99, NULL}, {0, 0, 0, CAST},
        {0, 2, 2, CAST}, {0, 0, -1, CAST}, {0, 2, 3, CAST}, {3, 1, 0, CAST}, {0, 1, -1, INDEX}, {0, 1, 3, INDEX},
        {0, 1, LEAST, INDEX}, {0, 1, MOST, INDEX}, {3, 0, 0, INDEX}, {3, 0, -1, INDEX}};
    private static final int[][] WRONG = {{-1, 0, 0}, {4, 0, 0}, {LEAST, 0, 0}, {MOST, 0, 0}, {0, -1, 0}, {0, 3, 0},
        {0, LEAST, 0}, {0, MOST, 0}, {1, -1, 0}, {1, 3, 0}, {4, 1, 99}, {0, 3, 99}};

    private static EasyToHard threeShorts() {
        EasyToHard x = new EasyToHard();
        Check.fill(x, 0, 1, 7, 8, 9);
        x.sheet(3, 0, 0);
        return x;
    }

    private static void wrongLay() {
        EasyToHard x = threeShorts();
        C.says(31, "BAD;");
        for (int[] w : WRONG) {
            C.bad("lay of " + java.util.Arrays.toString(w), x.lay(w[0], w[1], w[2], 1));
        }
        C.due("no finding", x.count(8), 0);
        C.says(31, "NULL; CAST; INDEX.");
        for (int[] w : FINDINGS) {
            finding(x, "lay of " + java.util.Arrays.toString(w), x.lay(w[0], w[1], w[2], 1), w[3]);
        }
        items(x, 0, 1, 7, 8, 9);
    }

    private static void get() {
        C.says(32, "Item i of it.");
        EasyToHard x = threeShorts();
        items(x, 0, 1, 7, 8, 9);
        C.due("no finding", x.count(8), 0);
        Check.fill(x, 2, 2, LEAST, MOST);
        items(x, 2, 2, LEAST, MOST);
        C.due("the least int may be an item", x.count(8), 0);
    }

    private static void wrongGet() {
        EasyToHard x = threeShorts();
        C.says(32, "BAD: the least int;");
        for (int[] w : WRONG) {
            C.due("get of " + java.util.Arrays.toString(w), x.get(w[0], w[1], w[2]), LEAST);
            C.due("is no finding", x.count(8), 0);
        }
        C.says(32, "so are NULL, CAST, INDEX (count() 8 tells).");
        for (int[] w : FINDINGS) {
            C.due("get of " + java.util.Arrays.toString(w), x.get(w[0], w[1], w[2]), LEAST);
            C.due("its finding", x.count(8), -10 - w[3]);
            x.sheet(2, 0, -1);
        }
        C.due("another finding between", x.count(8), 5);
        x.get(4, 0, 0);
        C.due("BAD leaves it", x.count(8), 5);
    }

    private static void copy() {
        C.says(33, "n items of SHEET s, from i on, come to SHEET t");
        for (int form = 0; form < 3; form++) {
            EasyToHard x = new EasyToHard();
            Check.fill(x, 0, form, 1, 2, 3, 4, 5);
            Check.fill(x, 3, form, 6, 7, 8);
            C.due("the first ones", x.copy(0, 0, 3, 0, 2), 1);
            items(x, 3, form, 1, 2, 8);
            C.due("the last one", x.copy(0, 4, 3, 2, 1), 1);
            items(x, 3, form, 1, 2, 5);
            C.due("as many as there are", x.copy(0, 2, 3, 0, 3), 1);
            items(x, 3, form, 3, 4, 5);
            items(x, 0, form, 1, 2, 3, 4, 5);
            C.due("back", x.copy(3, 0, 0, 2, 3), 1);
            items(x, 0, form, 1, 2, 3, 4, 5);
        }
        EasyToHard x = new EasyToHard();
        x.sheet(1, 2, 60);
        x.sheet(2, 2, 60);
        x.lay(1, 2, 59, LEAST);
        C.due("60 items", x.copy(1, 0, 2, 0, 60), 1);
        C.due("the last of them", x.get(2, 2, 59), LEAST);
    }

    private static void copyWithinOne() {
        C.says(33, "(perhaps s, as they were), from j on: 1.");
        for (int form = 0; form < 3; form++) {
            EasyToHard x = new EasyToHard();
            Check.fill(x, 2, form, 1, 2, 3, 4, 5);
            C.due("to behind", x.copy(2, 0, 2, 1, 4), 1);
            items(x, 2, form, 1, 1, 2, 3, 4);
            Check.fill(x, 2, form, 1, 2, 3, 4, 5);
            C.due("to ahead", x.copy(2, 1, 2, 0, 4), 1);
            items(x, 2, form, 2, 3, 4, 5, 5);
            C.due("to where they are", x.copy(2, 0, 2, 0, 5), 1);
            items(x, 2, form, 2, 3, 4, 5, 5);
        }
    }

    private static void copyOfNothing() {
        C.says(33, "n items of SHEET s, from i on,");
        EasyToHard x = new EasyToHard();
        Check.fill(x, 0, 0, 1, 2);
        x.sheet(1, 0, 0);
        C.due("none, from behind the last on", x.copy(0, 2, 0, 2, 0), 1);
        C.due("none, to an empty sheet", x.copy(0, 0, 1, 0, 0), 1);
        C.due("none, of an empty sheet", x.copy(1, 0, 0, 1, 0), 1);
        C.due("one of an empty sheet", x.copy(1, 0, 0, 0, 1), INDEX);
        C.due("one to an empty sheet", x.copy(0, 0, 1, 0, 1), INDEX);
        items(x, 0, 0, 1, 2);
    }

    private static void wrongCopy() {
        EasyToHard x = threeShorts();
        C.says(33, "BAD: the SHEETS;");
        int[][] wrong = {{-1, 0}, {4, 0}, {0, -1}, {0, 4}, {-1, 1}, {1, 4}, {LEAST, 0}, {MOST, 0}, {0, LEAST}, {0, MOST},
            {-1, -1}, {4, 4}};
        for (int[] w : wrong) {
            C.bad("copy from " + w[0] + " to " + w[1], x.copy(w[0], 0, w[1], 0, 1));
            C.bad("ahead of INDEX: from " + w[0] + " to " + w[1], x.copy(w[0], -1, w[1], 0, 1));
        }
        C.due("no finding", x.count(8), 0);
        C.says(33, "NULL: s, t;");
        finding(x, "copy(1, 0, 0, 0, 1)", x.copy(1, 0, 0, 0, 1), NULL);
        x.sheet(2, 0, -1);
        finding(x, "copy(0, 0, 1, 0, 1)", x.copy(0, 0, 1, 0, 1), NULL);
        finding(x, "copy(1, 0, 2, 0, 1)", x.copy(1, 0, 2, 0, 1), NULL);
        finding(x, "copy(1, 0, 1, 0, 0)", x.copy(1, 0, 1, 0, 0), NULL);
        finding(x, "copy(1, -1, 3, -1, -1)", x.copy(1, -1, 3, -1, -1), NULL);
        finding(x, "copy(3, -1, 1, -1, -1)", x.copy(3, -1, 1, -1, -1), NULL);
        items(x, 0, 1, 7, 8, 9);
    }

    private static void copyOfUnlikeForms() {
        C.says(33, "STORE;");
        for (int form = 0; form < 3; form++) {
            for (int other = 0; other < 3; other++) {
                EasyToHard x = new EasyToHard();
                Check.fill(x, 0, form, 1, 2);
                Check.fill(x, 1, other, 3, 4);
                int want = form == other ? 1 : STORE;
                C.due(form + " to " + other, x.copy(0, 0, 1, 0, 2), want);
                items(x, 1, other, form == other ? 1 : 3, form == other ? 2 : 4);
                C.due("none of them", x.copy(0, 0, 1, 0, 0), want);
                C.due("ahead of INDEX", x.copy(0, -1, 1, 0, 1), form == other ? INDEX : STORE);
                C.due("ahead of too many", x.copy(0, 0, 1, 0, 3), form == other ? INDEX : STORE);
            }
        }
    }

    private static void copyBeyond() {
        C.says(33, "INDEX: below 0, not so many.");
        EasyToHard x = new EasyToHard();
        Check.fill(x, 0, 2, 1, 2, 3);
        Check.fill(x, 1, 2, 4, 5, 6, 7, 8);
        int[][] wrong = {{0, -1, 1, 0, 1}, {0, 0, 1, -1, 1}, {0, 0, 1, 0, -1}, {0, -1, 1, 0, 0}, {0, 0, 1, -1, 0},
            {0, 0, 1, 0, 4}, {0, 1, 1, 0, 3}, {0, 3, 1, 0, 1}, {0, 4, 1, 0, 0}, {1, 0, 0, 0, 4}, {1, 0, 0, 1, 3},
            {1, 0, 0, 3, 1}, {1, 0, 0, 4, 0}, {0, LEAST, 1, 0, 1}, {0, 0, 1, LEAST, 1}, {0, 0, 1, 0, LEAST},
            {0, MOST, 1, 0, 1}, {0, 0, 1, MOST, 1}, {0, 0, 1, 0, MOST}, {0, MOST, 1, MOST, MOST}, {0, 1, 1, 0, MOST},
            {0, 0, 0, 1, 3}, {0, 1, 0, 0, 3}, {0, 5, 1, 0, -3}, {0, 2, 1, 2, -2}};
        for (int[] w : wrong) {
            C.due("copy of " + java.util.Arrays.toString(w), x.copy(w[0], w[1], w[2], w[3], w[4]), INDEX);
        }
        items(x, 0, 2, 1, 2, 3);
        items(x, 1, 2, 4, 5, 6, 7, 8);
        C.due("the last that is taken", x.copy(0, 0, 1, 2, 3), 1);
        items(x, 1, 2, 4, 5, 1, 2, 3);
    }

    private static void write() {
        C.says(34, "What PUPILS 0 on BELONG to (as bits) comes to a SHEET from item 0 on, "
                + "as many as there are items and PUPILS: how many.");
        int[] sizes = {0, 1, 11, 12, 13, 60};
        for (int size : sizes) {
            for (int form = 0; form < 3; form++) {
                EasyToHard x = Check.of(7);
                Check.tell(x, 0, "1111111", "01", "", "0000001");
                Check.tell(x, 0, "", "", "", "", "", "", "", "", "", "", "11", "001");
                int[] want = {127, 2, 0, 64, 0, 0, 0, 0, 0, 0, 3, 4};
                x.sheet(3, form, size);
                for (int i = 0; i < size; i++) {
                    x.lay(3, form, i, 99);
                }
                C.due("to " + size + " items", x.write(3), Math.min(12, size));
                for (int i = 0; i < size; i++) {
                    C.due("item " + i + " of " + size, x.get(3, form, i), i < 12 ? want[i] : 99);
                }
            }
        }
    }

    private static void wrongWrite() {
        EasyToHard x = new EasyToHard();
        C.says(34, "BAD; NULL.");
        for (int s : new int[] {-1, 4, LEAST, MOST}) {
            C.bad("write(" + s + ")", x.write(s));
        }
        C.due("no finding", x.count(8), 0);
        for (int s = 0; s < 4; s++) {
            finding(x, "write(" + s + ")", x.write(s), NULL);
        }
    }

    private static void countsAre(EasyToHard x, int... want) {
        for (int what = 0; what < want.length; what++) {
            C.due("count(" + what + ")", x.count(what), want[what]);
        }
    }

    private static void counts() {
        C.says(35, "0 n, 1 TELLINGS,");
        EasyToHard x = new EasyToHard();
        countsAre(x, 5, 0, 0, 0, 0, 0, 0, 0, 0);
        x.set(0, 7);
        for (int i = 0; i < 84; i++) {
            x.answer(i / 7, i % 7, 1, 0);
        }
        Check.type(x, "a<b;".repeat(14) + "a<b");
        x.set(2, 9);
        x.sheet(0, 0, -1);
        countsAre(x, 7, 84, 84, 84, 12, 59, 15, 9, 5);
        x.set(0, 2);
        countsAre(x, 2, 84, 24, 24, 12, 59, 15, 9, 5);
        for (int i = 84; i < 160; i++) {
            x.answer(0, 0, 2, 0);
        }
        countsAre(x, 2, 160, 23, 23, 12, 59, 15, 9, 5);
        C.due("full", x.answer(0, 0, 2, 0), EasyToHard.FULL);
        C.due("160 at most", x.count(1), 160);
    }

    private static void countsOfAnswers() {
        C.says(35, "2 all ANSWERS that count (yes, no), 3 yes of these, 4 PUPILS with some,");
        EasyToHard x = Check.of(2);
        Check.tell(x, 3, "10", "-0", "", "--1", "1-1");
        x.answer(11, 0, 2, 4);
        countsAre(x, 2, 7, 4, 2, 3);
        x.answer(0, 0, 0, 5);
        countsAre(x, 2, 8, 4, 1, 3);
        x.answer(1, 1, 2, 6);
        countsAre(x, 2, 9, 3, 1, 2);
        x.set(0, 3);
        countsAre(x, 3, 9, 5, 3, 3);
        x.set(1, 5);
        countsAre(x, 3, 9, 6, 3, 4);
        x.set(1, 2);
        countsAre(x, 3, 9, 0, 0, 0);
    }

    private static void countsOfNeeds() {
        C.says(35, "5 bytes of NEEDS, 6 parts of NEEDS, 7 SLACK,");
        EasyToHard x = new EasyToHard();
        Check.type(x, "a<b;b<c");
        C.due("bytes", x.count(5), 7);
        C.due("parts", x.count(6), 2);
        x.set(0, 2);
        C.due("parts of letters of n on too", x.count(6), 2);
        Check.type(x, ";a<b");
        C.due("a part told anew", x.count(6), 3);
        C.due("slack", x.count(7), 0);
        x.set(2, 9);
        C.due("slack of 9", x.count(7), 9);
        x.wipe();
        C.due("no bytes", x.count(5), 0);
        C.due("no parts", x.count(6), 0);
    }

    private static void countOfFindings() {
        C.says(35, "8 the number of the latest FINDING (0 before any).");
        EasyToHard x = threeShorts();
        C.due("none", x.count(8), 0);
        x.lose(9);
        x.type(-1);
        x.fit(0, 0);
        x.sure(0, 0, 0);
        C.due("BAD, NOT and FULL are none", x.count(8), 0);
        x.copy(0, 0, 3, 0, 1);
        C.due("STORE", x.count(8), 4);
        x.offBy(1);
        C.due("NULL", x.count(8), 1);
        x.get(0, 2, 0);
        C.due("CAST", x.count(8), 3);
        x.get(0, 1, 3);
        C.due("INDEX", x.count(8), 2);
        x.get(0, 1, 2);
        x.count(9);
        x.answer(12, 0, 0, 0);
        C.due("still INDEX", x.count(8), 2);
        x.sheet(0, 0, -1);
        C.due("SIZE", x.count(8), 5);
        x.read(1, 0, 0);
        C.due("NULL again", x.count(8), 1);
    }

    private static void wrongCount() {
        C.says(35, "BAD.");
        EasyToHard x = new EasyToHard();
        for (int what : new int[] {-1, 9, LEAST, MOST}) {
            C.bad("count(" + what + ")", x.count(what));
        }
    }

    private static void digest() {
        C.says(36, "h is 17; h becomes 31 h and each of: count() 0 to 7; fault(); of PUPILS step() 0, 1, "
                + "belongs() 0 to 2, likeliest(it, 2, 3); off() 0, 1, of QUESTIONS below n row(), without() 0, 1, "
                + "deep(), needed() with the next (of the last with 0) 0, 1;");
        for (int n = 2; n <= 7; n++) {
            EasyToHard x = Check.of(n);
            Check.type(x, (char) ('a' + n - 1) + "<a");
            Check.tell(x, n, "1100111", "1010101", "0101010", "1110", "0001", "1", "0000001", "", "0", "01", "", "10");
            C.due("n of " + n, x.digest(), SheetsTest.byHand(x));
            x.set(3, 1);
            x.set(2, 1);
            C.due("by found needs, n of " + n, x.digest(), SheetsTest.byHand(x));
            x.set(1, n - 1);
            C.due("before the answers, n of " + n, x.digest(), SheetsTest.byHand(x));
        }
        EasyToHard x = Check.of(7);
        Check.type(x, "a<b;b<c;c<d;d<e;e<f;f<g");
        Check.tell(x, 0, "0001111");
        C.due("likeliest by just these chances", x.digest(), SheetsTest.byHand(x));
    }

    private static void digestAsTold() {
        C.says(36, "fit() 0, 1, above and below each (as it is told); odd(), worst() 0, 1; states(NONE), paths(), "
                + "sure(0, 0, 0 and 1) (as it is told), lessons(2, NONE); as longs that wrap.");
        EasyToHard x = new EasyToHard();
        C.due("no fit, and too many to be sure of", x.fit(0, 0) + x.sure(0, 0, 0), Check.NOT_LONG - 4);
        C.due("a new object", x.digest(), SheetsTest.byHand(x));
        Check.type(x, "a<b;b<c;c<d;d<e");
        C.due("sure by three", x.sure(0, 0, 0), 3);
        C.due("a chain", x.digest(), SheetsTest.byHand(x));
        x.type('x');
        C.due("a fault", x.digest(), SheetsTest.byHand(x));
        long was = x.digest();
        x.lose(0);
        C.due("count() 8 is not in it", x.digest(), was);
        x.sheet(0, 0, 60);
        C.due("nor are sheets", x.digest(), was);
        x.set(2, 1);
        C.due("slack is", x.digest() == was ? 1 : 0, 0);
    }

    private static void lastOfTheCalls() {
        C.says(0, "An object is used for at most 512 calls after it has been made;");
        EasyToHard x = new EasyToHard();
        EasyToHard fewer = new EasyToHard();
        for (int i = 1; i <= 160; i++) {
            x.answer(i % 12, i % 7, i % 2, i);
            fewer.answer(i % 12, i % 7, i % 2, i);
        }
        for (int i = 161; i <= 511; i++) {
            C.due("call " + i, x.said(i % 12, i % 7), i % 2);
        }
        C.due("the 512th call", x.digest(), fewer.digest());
        C.says(0, "what later calls answer is free.");
        for (int i = 513; i <= 2000; i++) {
            x.answer(i % 13, i % 8, i % 4, i);
            x.type(i % 257);
            x.digest();
        }
        C.holds("they end, and nothing is thrown", true);
    }
}
