/** Promises 29 to 36: sheet, lose, lay, get, copy, write, count, digest. */
public final class SheetsTest {
    private static final Check C = new Check();
    private static final int LEAST = Integer.MIN_VALUE;

    public static void main(String[] args) {
        making();
        losing();
        laying();
        findingsInOrder();
        copying();
        wrongCopies();
        writing();
        counting();
        digest();
        C.finish();
    }

    private static void making() {
        EasyToHard x = new EasyToHard();
        for (int form = 0; form < 3; form++) {
            C.due("60 items", x.sheet(form, form, 60), 60);
            C.due("0 at first", x.get(form, form, 59), 0);
            x.lay(form, form, 0, 7);
            C.due("anew", x.sheet(form, form, 1), 1);
            C.due("0 again", x.get(form, form, 0), 0);
            C.due("no items", x.sheet(form, form, 0), 0);
            C.due("none to get", x.get(form, form, 0), LEAST);
        }
        int[][] wrong = {{-1, 0, 1}, {4, 0, 1}, {0, -1, 1}, {0, 3, 1}, {0, 0, 61}, {4, 0, -1}, {0, 3, -1}};
        EasyToHard y = new EasyToHard();
        for (int[] w : wrong) {
            C.due("sheet of " + java.util.Arrays.toString(w), y.sheet(w[0], w[1], w[2]), EasyToHard.BAD);
        }
        C.due("no finding", y.count(8), 0);
        y.sheet(0, 1, 2);
        y.lay(0, 1, 1, 5);
        C.due("below 0", y.sheet(0, 0, -1), -15);
        C.due("SIZE", y.count(8), 5);
        C.due("the sheet is as it was", y.get(0, 1, 1), 5);
        C.due("far below 0", y.sheet(0, 0, LEAST), -15);
    }

    private static void losing() {
        EasyToHard x = new EasyToHard();
        C.due("lose(-1)", x.lose(-1), EasyToHard.BAD);
        C.due("lose(4)", x.lose(4), EasyToHard.BAD);
        C.due("lost at first", x.lose(0), -11);
        x.sheet(0, 2, 17);
        C.due("had 17", x.lose(0), 17);
        C.due("lost", x.get(0, 2, 0), LEAST);
        C.due("NULL", x.count(8), 1);
        C.due("lost again", x.lose(0), -11);
        x.sheet(0, 2, 0);
        C.due("had none", x.lose(0), 0);
    }

    private static void laying() {
        EasyToHard x = new EasyToHard();
        int[] values = {127, 128, 255, 256, -1, -129, 32767, 32768, 65535, 65536, Integer.MAX_VALUE, LEAST};
        for (int v : values) {
            int[] want = {(byte) v, (short) v, v};
            for (int form = 0; form < 3; form++) {
                x.sheet(0, form, 3);
                C.due("lay", x.lay(0, form, 2, v), 1);
                C.due(v + " of form " + form, x.get(0, form, 2), want[form]);
                C.due("no other", x.get(0, form, 1), 0);
            }
        }
        C.due("no finding", x.count(8), 0);
    }

    private static void findingsInOrder() {
        EasyToHard x = new EasyToHard();
        x.sheet(0, 1, 3);
        int[][] of = {{-1, 0, 0}, {4, 0, 0}, {0, -1, 0}, {0, 3, 0}, {1, 0, 0}, {1, 0, 99}, {0, 0, 0}, {0, 2, 99},
            {0, 1, -1}, {0, 1, 3}, {0, 1, LEAST}, {0, 1, Integer.MAX_VALUE}, {2, 3, 0}};
        int[] finding = {0, 0, 0, 0, 1, 1, 3, 3, 2, 2, 2, 2, 0};
        for (int k = 0; k < of.length; k++) {
            int[] w = of[k];
            String call = java.util.Arrays.toString(w);
            int before = x.count(8);
            int want = finding[k] == 0 ? EasyToHard.BAD : -10 - finding[k];
            C.due("lay of " + call, x.lay(w[0], w[1], w[2], 9), want);
            C.due("count 8, lay of " + call, x.count(8), finding[k] == 0 ? before : finding[k]);
            x.lose(3);
            C.due("NULL between", x.count(8), 1);
            C.due("get of " + call, x.get(w[0], w[1], w[2]), LEAST);
            C.due("count 8, get of " + call, x.count(8), finding[k] == 0 ? 1 : finding[k]);
        }
        for (int i = 0; i < 3; i++) {
            C.due("nothing was laid", x.get(0, 1, i), 0);
        }
    }

    private static void items(EasyToHard x, int s, int form, int... want) {
        for (int i = 0; i < want.length; i++) {
            C.due("item " + i + " of " + s, x.get(s, form, i), want[i]);
        }
    }

    private static void copying() {
        for (int form = 0; form < 3; form++) {
            EasyToHard x = new EasyToHard();
            Check.fill(x, 0, form, 1, 2, 3, 4, 5);
            x.sheet(1, form, 3);
            C.due("copy", x.copy(0, 2, 1, 1, 2), 1);
            items(x, 1, form, 0, 3, 4);
            C.due("all of it", x.copy(0, 0, 0, 0, 5), 1);
            C.due("forwards in itself", x.copy(0, 0, 0, 1, 4), 1);
            items(x, 0, form, 1, 1, 2, 3, 4);
            C.due("backwards in itself", x.copy(0, 2, 0, 0, 3), 1);
            items(x, 0, form, 2, 3, 4, 3, 4);
            C.due("nothing, at the ends", x.copy(0, 5, 1, 3, 0), 1);
            C.due("no finding", x.count(8), 0);
        }
    }

    private static void wrongCopies() {
        EasyToHard x = new EasyToHard();
        Check.fill(x, 0, 0, 1, 2, 3);
        Check.fill(x, 1, 1, 4, 5, 6);
        int most = Integer.MAX_VALUE;
        int[][] of = {{-1, 0, 0, 0, 1}, {4, 0, 0, 0, 1}, {0, 0, -1, 0, 1}, {0, 0, 4, 0, 1}, {2, 0, 4, 0, 1},
            {2, 0, 0, 0, 1}, {0, 0, 2, 0, 1}, {2, 0, 3, 0, -1}, {0, 0, 1, 0, 1}, {0, -1, 1, 0, 1}, {1, 0, 0, 0, 0},
            {0, -1, 0, 0, 1}, {0, 0, 0, -1, 1}, {0, 0, 0, 0, -1}, {0, 1, 0, 0, 3}, {0, 0, 0, 1, 3}, {0, 4, 0, 0, 0},
            {0, 0, 0, 4, 0}, {0, 0, 0, 0, 4}, {0, most, 0, 0, most}, {0, 1, 0, most, most}, {0, 0, 0, 0, LEAST}};
        int[] finding = {0, 0, 0, 0, 0, 1, 1, 1, 4, 4, 4, 2, 2, 2, 2, 2, 2, 2, 2, 2, 2, 2};
        for (int k = 0; k < of.length; k++) {
            int[] w = of[k];
            String call = "copy of " + java.util.Arrays.toString(w);
            int want = finding[k] == 0 ? EasyToHard.BAD : -10 - finding[k];
            C.due(call, x.copy(w[0], w[1], w[2], w[3], w[4]), want);
            C.due("count 8, " + call, x.count(8), finding[k]);
        }
        items(x, 0, 0, 1, 2, 3);
        items(x, 1, 1, 4, 5, 6);
    }

    private static void writing() {
        EasyToHard x = new EasyToHard();
        x.set(0, 7);
        Check.type(x, "a<b");
        Check.tell(x, 0, "1111111", "01", "1", "0000001");
        C.due("write(-1)", x.write(-1), EasyToHard.BAD);
        C.due("write(4)", x.write(4), EasyToHard.BAD);
        C.due("lost", x.write(0), -11);
        C.due("NULL", x.count(8), 1);
        for (int form = 0; form < 3; form++) {
            Check.fill(x, 0, form, 9, 9, 9, 9, 9, 9, 9, 9, 9, 9, 9, 9, 9);
            C.due("twelve at most", x.write(0), 12);
            items(x, 0, form, 127, 0, 1, 64, 0, 0, 0, 0, 0, 0, 0, 0, 9);
            x.sheet(1, form, 2);
            C.due("as many as there are items", x.write(1), 2);
            items(x, 1, form, 127, 0);
            x.sheet(1, form, 0);
            C.due("none", x.write(1), 0);
        }
    }

    private static void counting() {
        EasyToHard x = new EasyToHard();
        C.due("count(-1)", x.count(-1), EasyToHard.BAD);
        C.due("count(9)", x.count(9), EasyToHard.BAD);
        Check.tell(x, 3, "110", "-----1", "0", "", "1");
        x.answer(5, 1, 2, 4);
        x.set(2, 4);
        Check.type(x, "a<b;c<g");
        x.lose(0);
        int[] want = {5, 7, 5, 3, 3, 7, 2, 4, 1};
        for (int what = 0; what < want.length; what++) {
            C.due("count(" + what + ")", x.count(what), want[what]);
        }
        x.set(0, 6);
        C.due("n of 6: answers", x.count(2), 6);
        C.due("n of 6: yes", x.count(3), 4);
        C.due("n of 6: pupils", x.count(4), 4);
        x.set(0, 2);
        C.due("n of 2: answers", x.count(2), 4);
        x.set(1, 2);
        C.due("as of 2: answers", x.count(2), 0);
        C.due("as of 2: pupils", x.count(4), 0);
        C.due("as of 2: tellings", x.count(1), 7);
    }

    /** The digest, call by call. */
    static long byHand(EasyToHard x) {
        long[] h = {17};
        for (int what = 0; what < 8; what++) {
            add(h, x.count(what));
        }
        add(h, x.fault());
        for (int p = 0; p < 12; p++) {
            add(h, x.step(p, 0), x.step(p, 1), x.belongs(p, 0), x.belongs(p, 1), x.belongs(p, 2),
                    x.likeliest(p, 2, 3));
        }
        add(h, x.off(0), x.off(1));
        int n = x.count(0);
        for (int q = 0; q < n; q++) {
            int other = (q + 1) % n;
            add(h, x.row(q), x.without(q, 0), x.without(q, 1), x.deep(q), x.needed(q, other, 0),
                    x.needed(q, other, 1));
        }
        add(h, x.fit(0, 0), x.fit(0, 1), x.fit(1, 0), x.fit(1, 1), x.odd(), x.worst(0), x.worst(1));
        add(h, x.states(-1), x.paths(), x.sure(0, 0, 0), x.sure(0, 0, 1), x.lessons(2, -1));
        return h[0];
    }

    private static void add(long[] h, long... parts) {
        for (long part : parts) {
            h[0] = 31 * h[0] + part;
        }
    }

    private static void digest() {
        EasyToHard x = new EasyToHard();
        C.due("digest of a new object", x.digest(), byHand(new EasyToHard()));
        for (int n = 2; n <= 7; n++) {
            x.set(0, n);
            Check.tell(x, n, "1100111", "1010101", "0101010", "111", "000", "1", "0000001");
            Check.type(x, n % 2 == 0 ? "a<b" : ";c<d;");
            x.set(2, n);
            x.set(3, n % 2);
            long got = x.digest();
            C.due("digest, n of " + n, got, byHand(x));
            x.lose(3);
            C.due("findings are not in it", x.digest(), got);
        }
    }
}
