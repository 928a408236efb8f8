import java.util.Random;

/** Random runs of calls, each answer compared with that of the Oracle. */
public final class OracleTest {
    private static final Check C = new Check();
    private static final int CALLS = 512;
    /** How often each call is made, in the order of the public face. */
    private static final int[] SHARES = {4, 12, 2, 2, 0, 1, 1, 2, 2, 1, 1, 1, 2, 1, 1, 1, 1, 2, 2, 1, 1, 1, 3, 2,
        2, 2, 1, 2, 1, 4, 3, 3, 2, 1, 2};

    private final Random random;
    private final EasyToHard x = new EasyToHard();
    private final Oracle oracle = new Oracle();
    private final String run;
    private int time;

    private OracleTest(int seed) {
        random = new Random(seed);
        run = "run " + seed + ": ";
    }

    public static void main(String[] args) {
        int runs = Integer.getInteger("runs", 60);
        int first = Integer.getInteger("first", 1);
        for (int seed = first; seed < first + runs; seed++) {
            new OracleTest(seed).go(seed);
        }
        C.finish();
    }

    private void go(int seed) {
        // The oracle tries all rows, so the largest tests are made more seldom.
        int n = seed % 10 == 0 ? 7 : 2 + seed % 5;
        due("set(0, " + n + ")", x.set(0, n), oracle.set(0, n));
        if (seed % 3 != 0) {
            tellInSteps(n, seed % 3 == 1 ? 8 : 3);
        }
        typeSome();
        int most = n == 7 ? 60 : n == 6 ? 200 : CALLS - 240;
        for (int i = 0; i < most; i++) {
            call(pick());
        }
        due("digest()", x.digest(), oracle.digest());
    }

    /** Answers as by a row from easy to hard, now and then out of step. */
    private void tellInSteps(int n, int seldom) {
        int turned = random.nextInt(8);
        for (int p = 0; p < 12; p++) {
            int reach = random.nextInt(n + 1);
            for (int q = 0; q < n; q++) {
                int v = q < reach == (q != turned) ? 1 : 0;
                v = random.nextInt(seldom) == 0 ? random.nextInt(3) : v;
                due("answer(" + p + ", " + q + ", " + v + ", 0)", x.answer(p, q, v, 0), oracle.answer(p, q, v, 0));
            }
        }
    }

    private int pick() {
        int all = 0;
        for (int share : SHARES) {
            all += share;
        }
        int at = random.nextInt(all);
        int which = 0;
        while (at >= SHARES[which]) {
            at -= SHARES[which];
            which++;
        }
        return which;
    }

    private void due(String call, long got, long want) {
        C.due(run + call, got, want);
    }

    /** 0 to most, seldom one beyond, or far beyond. */
    private int upTo(int most) {
        int r = random.nextInt(60);
        return r == 0 ? -1 : r == 1 ? most + 1 : r == 2 ? random.nextInt() : random.nextInt(most + 1);
    }

    private void typeSome() {
        int parts = random.nextInt(5);
        StringBuilder text = new StringBuilder();
        for (int i = 0; i < parts; i++) {
            int first = random.nextInt(7);
            int second = random.nextInt(7);
            boolean inOrder = first < second || random.nextInt(12) == 0;
            text.append(text.length() > 0 ? ";" : "");
            text.append((char) ('a' + (inOrder ? first : second))).append('<');
            text.append((char) ('a' + (inOrder ? second : first)));
        }
        if (random.nextInt(4) == 0 && text.length() > 0) {
            text.setCharAt(random.nextInt(text.length()), ";<abh>`".charAt(random.nextInt(7)));
        }
        due("wipe()", x.wipe(), oracle.wipe());
        for (int i = 0; i < text.length(); i++) {
            int b = text.charAt(i);
            due("type(" + b + ")", x.type(b), oracle.type(b));
            due("fault() in " + text, x.fault(), oracle.fault());
        }
    }

    private int nextTime() {
        int r = random.nextInt(30);
        if (r < 4) {
            time = Math.min(999, time + 1 + random.nextInt(9));
        }
        return r == 29 ? upTo(999) : time;
    }

    private int value() {
        int r = random.nextInt(40);
        return r == 0 ? random.nextInt() : r < 12 ? random.nextInt(3) : random.nextInt(7);
    }

    private int settingOf(int what) {
        switch (what) {
            case 0:
                // Seldom more than five, for the sake of the oracle's time.
                return random.nextInt(12) == 0 ? upTo(8) : 2 + random.nextInt(4);
            case 1:
                return random.nextInt(3) == 0 ? 999 : upTo(30);
            case 2:
                return upTo(random.nextInt(3) == 0 ? 9 : 2);
            default:
                return upTo(1);
        }
    }

    private void call(int which) {
        if (which < 9) {
            callOfAnswers(which);
        } else if (which < 18) {
            callOfRows(which);
        } else if (which < 27) {
            callOfStates(which);
        } else {
            callOfSheets(which);
        }
    }

    private void callOfAnswers(int which) {
        int a = upTo(11);
        int q = upTo(6);
        switch (which) {
            case 0 -> {
                int what = upTo(3);
                int v = settingOf(what);
                due("set(" + what + ", " + v + ")", x.set(what, v), oracle.set(what, v));
            }
            case 1 -> {
                int v = upTo(2);
                int t = nextTime();
                due("answer(" + a + ", " + q + ", " + v + ", " + t + ")", x.answer(a, q, v, t), oracle.answer(a, q, v, t));
            }
            case 2 -> {
                int s = upTo(3);
                int t = nextTime();
                due("read(" + s + ", " + a + ", " + t + ")", x.read(s, a, t), oracle.read(s, a, t));
            }
            case 3 -> due("said(" + a + ", " + q + ")", x.said(a, q), oracle.said(a, q));
            case 5, 6 -> typeSome();
            case 7 -> due("fault()", x.fault(), oracle.fault());
            default -> {
                int b = upTo(6);
                int by = upTo(1);
                due("needed(" + q + ", " + b + ", " + by + ")", x.needed(q, b, by), oracle.needed(q, b, by));
            }
        }
    }

    private void callOfRows(int which) {
        int a = upTo(11);
        int q = upTo(6);
        int what = upTo(1);
        switch (which) {
            case 9 -> {
                int set = upTo(127);
                due("errors(" + a + ", " + set + ")", x.errors(a, set), oracle.errors(a, set));
            }
            case 10 -> due("off(" + what + ")", x.off(what), oracle.off(what));
            case 11 -> due("row(" + q + ")", x.row(q), oracle.row(q));
            case 12 -> due("step(" + a + ", " + what + ")", x.step(a, what), oracle.step(a, what));
            case 13 -> {
                layRow();
                int s = upTo(3);
                due("offBy(" + s + ")", x.offBy(s), oracle.offBy(s));
            }
            case 14 -> {
                int by = upTo(1);
                due("fit(" + by + ", " + what + ")", x.fit(by, what), oracle.fit(by, what));
            }
            case 15 -> due("odd()", x.odd(), oracle.odd());
            case 16 -> due("without(" + q + ", " + what + ")", x.without(q, what), oracle.without(q, what));
            default -> due("worst(" + what + ")", x.worst(what), oracle.worst(what));
        }
    }

    /** A row of all questions in a chance order on a sheet. */
    private void layRow() {
        int s = random.nextInt(4);
        int form = random.nextInt(3);
        due("sheet", x.sheet(s, form, 9), oracle.sheet(s, form, 9));
        int n = oracle.count(0);
        for (int i = 0; i < n; i++) {
            int j = random.nextInt(i + 1);
            lay(s, form, i, oracle.get(s, form, j));
            lay(s, form, j, i);
        }
    }

    private void lay(int s, int form, int i, int v) {
        due("lay(" + s + ", " + form + ", " + i + ", " + v + ")", x.lay(s, form, i, v), oracle.lay(s, form, i, v));
    }

    private void callOfStates(int which) {
        int a = upTo(11);
        int q = upTo(6);
        int set = random.nextInt(3) == 0 ? upTo(127) : random.nextInt(4) * random.nextInt(4);
        int what = upTo(1);
        int slip = random.nextInt(4) == 0 ? upTo(16) : random.nextInt(5);
        int luck = random.nextInt(4) == 0 ? upTo(16) : random.nextInt(5);
        String chance = a + ", " + set + ", " + slip + ", " + luck + ", " + what + ")";
        switch (which) {
            case 18 -> {
                int i = random.nextInt(2) == 0 ? random.nextInt(5) - 2 : upTo(40);
                due("states(" + i + ")", x.states(i), oracle.states(i));
            }
            case 19 -> {
                int of = upTo(2);
                due("belongs(" + a + ", " + of + ")", x.belongs(a, of), oracle.belongs(a, of));
            }
            case 20 -> {
                int of = upTo(2);
                due("next(" + set + ", " + of + ")", x.next(set, of), oracle.next(set, of));
            }
            case 21 -> due("paths()", x.paths(), oracle.paths());
            case 22 -> due("deep(" + q + ")", x.deep(q), oracle.deep(q));
            case 23 -> {
                int not = random.nextInt(2) == 0 ? 0 : upTo(127) & ~set;
                due("sure(" + set + ", " + not + ", " + what + ")", x.sure(set, not, what), oracle.sure(set, not, what));
            }
            case 24 -> due("chance(" + chance, x.chance(a, set, slip, luck, what), oracle.chance(a, set, slip, luck, what));
            case 25 -> due("share(" + chance, x.share(a, set, slip, luck, what), oracle.share(a, set, slip, luck, what));
            default -> due("likeliest(" + a + ", " + slip + ", " + luck + ")", x.likeliest(a, slip, luck),
                    oracle.likeliest(a, slip, luck));
        }
    }

    private void callOfSheets(int which) {
        int s = upTo(3);
        int form = upTo(2);
        int i = random.nextInt(2) == 0 ? random.nextInt(6) : upTo(60);
        switch (which) {
            case 27 -> {
                int k = random.nextInt(3) == 0 ? upTo(4) : upTo(3);
                int of = upTo(5) - 1;
                due("lessons(" + k + ", " + of + ")", x.lessons(k, of), oracle.lessons(k, of));
            }
            case 28 -> due("sheet(" + s + ", " + form + ", " + i + ")", x.sheet(s, form, i), oracle.sheet(s, form, i));
            case 29 -> {
                int last = upTo(3);
                due("lose(" + last + ")", x.lose(last), oracle.lose(last));
                due("sheet", x.sheet(last, form, i + 4), oracle.sheet(last, form, i + 4));
            }
            case 30 -> lay(s, form, i, value());
            case 31 -> due("get(" + s + ", " + form + ", " + i + ")", x.get(s, form, i), oracle.get(s, form, i));
            case 32 -> {
                int t = random.nextInt(2) == 0 ? s : upTo(3);
                int j = random.nextInt(8);
                int m = upTo(6);
                due("copy(" + s + ", " + i + ", " + t + ", " + j + ", " + m + ")", x.copy(s, i, t, j, m),
                        oracle.copy(s, i, t, j, m));
            }
            case 33 -> due("write(" + s + ")", x.write(s), oracle.write(s));
            default -> {
                for (int what = -1; what < 10; what++) {
                    due("count(" + what + ")", x.count(what), oracle.count(what));
                }
            }
        }
    }
}
