import java.math.BigInteger;
import java.util.ArrayList;
import java.util.List;

/**
 * The document in its plainest form, without regard to time and room: OracleTest compares the class
 * with it. It keeps nothing but what was told, tries all rows, sets and lessons, and lets the Java
 * machine itself make the findings of the sheets.
 */
final class Oracle {
    private static final int NONE = -1, BAD = -2, NOT = -3, FULL = -4;

    private record Telling(int pupil, int question, int v, int time) { }

    private final List<Telling> tellings = new ArrayList<>();
    private final StringBuilder text = new StringBuilder();
    private final Object[] sheets = new Object[4];
    private int n = 5;
    private int asOf = 999;
    private int slack;
    private int which;
    private int finding;

    // ---- answers, needs

    int set(int what, int v) {
        int was;
        if (what == 0 && v >= 2 && v <= 7) {
            was = n;
            n = v;
        } else if (what == 1 && v >= 0 && v <= 999) {
            was = asOf;
            asOf = v;
        } else if (what == 2 && v >= 0 && v <= 9) {
            was = slack;
            slack = v;
        } else if (what == 3 && (v == 0 || v == 1)) {
            was = which;
            which = v;
        } else {
            was = BAD;
        }
        return was;
    }

    private boolean badTime(int time) {
        if (time < 0 || time > 999) {
            return true;
        }
        for (Telling t : tellings) {
            if (t.time > time) {
                return true;
            }
        }
        return false;
    }

    int answer(int pupil, int question, int v, int time) {
        if (badPupil(pupil) || question < 0 || question > 6 || v < 0 || v > 2 || badTime(time)) {
            return BAD;
        }
        if (tellings.size() == 160) {
            return FULL;
        }
        tellings.add(new Telling(pupil, question, v, time));
        return tellings.size();
    }

    int read(int s, int pupil, int time) {
        if (badSheet(s) || badPupil(pupil) || badTime(time)) {
            return BAD;
        }
        if (sheets[s] == null) {
            return found(1);
        }
        int i = 0;
        while (i < 7 && i < size(s) && answer(pupil, i, item(s, i), time) > 0) {
            i++;
        }
        return i;
    }

    int said(int pupil, int question) {
        if (badPupil(pupil) || question < 0 || question > 6) {
            return BAD;
        }
        int v = 2;
        for (Telling t : tellings) {
            if (t.pupil == pupil && t.question == question && t.time <= asOf) {
                v = t.v;
            }
        }
        return v;
    }

    int type(int b) {
        if (b < 0 || b > 255) {
            return BAD;
        }
        if (text.length() == 60) {
            return FULL;
        }
        text.append((char) b);
        return text.length();
    }

    int wipe() {
        int had = text.length();
        text.setLength(0);
        return had;
    }

    int fault() {
        if (text.length() == 0) {
            return NONE;
        }
        List<int[]> ahead = new ArrayList<>();
        for (int i = 0; i < text.length(); i++) {
            char c = text.charAt(i);
            boolean isLetter = c >= 'a' && c <= 'g';
            boolean fits = i % 4 == 1 ? c == '<' : i % 4 == 3 ? c == ';' : isLetter;
            if (!fits) {
                return i;
            }
            if (i % 4 == 2) {
                int first = text.charAt(i - 2) - 'a';
                if (comesTo(ahead, c - 'a', first, 8)) {
                    return i;
                }
                ahead.add(new int[] {first, c - 'a'});
            }
        }
        return text.length() % 4 == 3 ? NONE : text.length();
    }

    /** Whether one is the other, or is needed for it by way of at most so many parts. */
    private static boolean comesTo(List<int[]> parts, int from, int to, int ways) {
        if (from == to) {
            return true;
        }
        for (int[] part : parts) {
            if (ways > 0 && part[0] == from && comesTo(parts, part[1], to, ways - 1)) {
                return true;
            }
        }
        return false;
    }

    private boolean isNeeded(int a, int b, int by) {
        if (by == 0) {
            String part = (char) ('a' + a) + "<" + (char) ('a' + b);
            return fault() == NONE && (";" + text + ";").contains(";" + part + ";");
        }
        int bNotA = 0;
        int aNotB = 0;
        for (int p = 0; p < 12; p++) {
            bNotA += said(p, b) == 1 && said(p, a) == 0 ? 1 : 0;
            aNotB += said(p, a) == 1 && said(p, b) == 0 ? 1 : 0;
        }
        return bNotA <= slack && bNotA < aNotB;
    }

    int needed(int a, int b, int by) {
        if (badQuestion(a) || badQuestion(b) || a == b || by < 0 || by > 1) {
            return BAD;
        }
        return isNeeded(a, b, by) ? 1 : 0;
    }

    // ---- rows

    /** What all pupils said, 0, 1 or 2, to each of seven; 2 to those of n on. */
    private int[][] table() {
        int[][] table = new int[12][7];
        for (int p = 0; p < 12; p++) {
            for (int q = 0; q < 7; q++) {
                table[p][q] = q < n ? said(p, q) : 2;
            }
        }
        return table;
    }

    private static int errorsOf(int[] said, int set) {
        int errors = 0;
        for (int q = 0; q < 7; q++) {
            boolean isIn = (set >> q & 1) == 1;
            errors += said[q] == 1 && !isIn || said[q] == 0 && isIn ? 1 : 0;
        }
        return errors;
    }

    int errors(int pupil, int set) {
        return badPupil(pupil) || set < 0 || set > 127 ? BAD : errorsOf(table()[pupil], set);
    }

    private static int stepOf(int[] said, List<Integer> row) {
        int step = 0;
        int set = 0;
        int fewest = errorsOf(said, 0);
        for (int k = 1; k <= row.size(); k++) {
            set |= 1 << row.get(k - 1);
            if (errorsOf(said, set) < fewest) {
                fewest = errorsOf(said, set);
                step = k;
            }
        }
        return step;
    }

    private static int offOf(int[] said, List<Integer> row) {
        int set = 0;
        for (int q : row.subList(0, stepOf(said, row))) {
            set |= 1 << q;
        }
        return errorsOf(said, set);
    }

    private static int offOfAll(int[][] table, List<Integer> row) {
        int off = 0;
        for (int[] said : table) {
            off += offOf(said, row);
        }
        return off;
    }

    private static void allRows(List<Integer> begun, List<Integer> left, List<List<Integer>> rows) {
        if (left.isEmpty()) {
            rows.add(new ArrayList<>(begun));
        }
        for (Integer q : left) {
            List<Integer> longer = new ArrayList<>(begun);
            longer.add(q);
            List<Integer> fewer = new ArrayList<>(left);
            fewer.remove(q);
            allRows(longer, fewer, rows);
        }
    }

    private List<List<Integer>> allRowsBut(int leftOut) {
        List<Integer> questions = new ArrayList<>();
        for (int q = 0; q < n; q++) {
            if (q != leftOut) {
                questions.add(q);
            }
        }
        List<List<Integer>> rows = new ArrayList<>();
        allRows(new ArrayList<>(), questions, rows);
        return rows;
    }

    private List<Integer> best() {
        int[][] table = table();
        List<Integer> best = null;
        int least = 0;
        for (List<Integer> row : allRowsBut(NONE)) {
            int off = offOfAll(table, row);
            if (best == null || off < least) {
                best = row;
                least = off;
            }
        }
        return best;
    }

    int off(int what) {
        if (what < 0 || what > 1) {
            return BAD;
        }
        int[][] table = table();
        int off = offOfAll(table, best());
        int ways = 0;
        for (List<Integer> row : allRowsBut(NONE)) {
            ways += offOfAll(table, row) == off ? 1 : 0;
        }
        return what == 0 ? off : ways;
    }

    int row(int i) {
        return badQuestion(i) ? BAD : best().get(i);
    }

    int step(int pupil, int what) {
        if (badPupil(pupil) || what < 0 || what > 1) {
            return BAD;
        }
        int[] said = table()[pupil];
        return what == 0 ? stepOf(said, best()) : offOf(said, best());
    }

    int offBy(int s) {
        if (badSheet(s)) {
            return BAD;
        }
        if (sheets[s] == null) {
            return found(1);
        }
        List<Integer> row = new ArrayList<>();
        for (int i = 0; i < n && i < size(s); i++) {
            row.add(item(s, i));
        }
        return allRowsBut(NONE).contains(row) ? offOfAll(table(), row) : NOT;
    }

    long fit(int by, int what) {
        if (by < 0 || by > 1 || what < 0 || what > 1) {
            return Long.MIN_VALUE + 2;
        }
        if (count(2) == 0) {
            return Long.MIN_VALUE + 3;
        }
        int above = count(2) - off(0);
        if (by == 1) {
            above = 0;
            for (int q = 0; q < n; q++) {
                int yes = 0;
                int no = 0;
                for (int p = 0; p < 12; p++) {
                    yes += said(p, q) == 1 ? 1 : 0;
                    no += said(p, q) == 0 ? 1 : 0;
                }
                above += Math.max(yes, no);
            }
        }
        return lowest(BigInteger.valueOf(above), BigInteger.valueOf(count(2)), what);
    }

    private static long lowest(BigInteger above, BigInteger below, int what) {
        BigInteger common = above.gcd(below);
        return (what == 0 ? above : below).divide(common).longValueExact();
    }

    int odd() {
        int odd = NONE;
        int most = 0;
        List<Integer> best = best();
        for (int p = 0; p < 12; p++) {
            int off = offOf(table()[p], best);
            if (off > most) {
                most = off;
                odd = p;
            }
        }
        return odd;
    }

    int without(int question, int how) {
        if (badQuestion(question) || how < 0 || how > 1) {
            return BAD;
        }
        int[][] table = table();
        for (int[] said : table) {
            if (how == 0) {
                said[question] = 2;
            } else if (said[question] != 2) {
                said[question] = 1 - said[question];
            }
        }
        int least = Integer.MAX_VALUE;
        for (List<Integer> row : allRowsBut(how == 0 ? question : NONE)) {
            least = Math.min(least, offOfAll(table, row));
        }
        return least;
    }

    int worst(int how) {
        if (how < 0 || how > 1) {
            return BAD;
        }
        int worst = 0;
        int least = Integer.MAX_VALUE;
        for (int q = 0; q < n; q++) {
            int off = without(q, how);
            if (off < least) {
                least = off;
                worst = q;
            }
        }
        return worst;
    }

    // ---- states

    private List<Integer> allStates() {
        boolean[][] needs = new boolean[n][n];
        for (int a = 0; a < n; a++) {
            for (int b = 0; b < n; b++) {
                needs[a][b] = a != b && isNeeded(a, b, which);
            }
        }
        List<Integer> states = new ArrayList<>();
        for (int set = 0; set < 1 << n; set++) {
            boolean isState = true;
            for (int a = 0; a < n; a++) {
                for (int b = 0; b < n; b++) {
                    isState &= !needs[a][b] || (set >> b & 1) == 0 || (set >> a & 1) == 1;
                }
            }
            if (isState) {
                states.add(set);
            }
        }
        return states;
    }

    int states(int i) {
        List<Integer> states = allStates();
        return i < NONE ? BAD : i == NONE ? states.size() : i < states.size() ? states.get(i) : NONE;
    }

    private int belongsTo(int pupil, List<Integer> states) {
        int[] said = table()[pupil];
        int best = states.get(0);
        for (int state : states) {
            if (errorsOf(said, state) < errorsOf(said, best)) {
                best = state;
            }
        }
        return best;
    }

    int belongs(int pupil, int what) {
        if (badPupil(pupil) || what < 0 || what > 2) {
            return BAD;
        }
        int state = belongsTo(pupil, allStates());
        int fewest = errors(pupil, state);
        int number = 0;
        for (int other : allStates()) {
            number += errors(pupil, other) == fewest ? 1 : 0;
        }
        return what == 0 ? state : what == 1 ? fewest : number;
    }

    int next(int set, int what) {
        if (set < 0 || set > 127 || what < 0 || what > 2) {
            return BAD;
        }
        int own = set % (1 << n);
        List<Integer> states = allStates();
        if (what == 2) {
            return states.contains(own) ? 1 : 0;
        }
        int bits = 0;
        for (int q = 0; q < n; q++) {
            boolean isIn = (own >> q & 1) == 1;
            int other = isIn ? own - (1 << q) : own + (1 << q);
            bits += isIn == (what == 1) && states.contains(other) ? 1 << q : 0;
        }
        return bits;
    }

    int paths() {
        return pathsFrom(0, allStates());
    }

    private int pathsFrom(int state, List<Integer> states) {
        if (state == (1 << n) - 1) {
            return 1;
        }
        int ways = 0;
        for (int q = 0; q < n; q++) {
            if ((state >> q & 1) == 0 && states.contains(state + (1 << q))) {
                ways += pathsFrom(state + (1 << q), states);
            }
        }
        return ways;
    }

    int deep(int question) {
        if (badQuestion(question)) {
            return BAD;
        }
        int least = 99;
        for (int state : allStates()) {
            if ((state >> question & 1) == 1) {
                least = Math.min(least, Integer.bitCount(state));
            }
        }
        return least;
    }

    // ---- sure, chances

    private int questionsFor(List<Integer> states, int asked) {
        if (states.size() == 1) {
            return 0;
        }
        int fewest = 99;
        for (int q = 0; q < n; q++) {
            if ((asked >> q & 1) == 0) {
                fewest = Math.min(fewest, questionsBehind(states, asked, q));
            }
        }
        return fewest;
    }

    private int questionsBehind(List<Integer> states, int asked, int q) {
        int most = 0;
        for (int answer = 0; answer < 2; answer++) {
            List<Integer> left = new ArrayList<>();
            for (int state : states) {
                if ((state >> q & 1) == answer) {
                    left.add(state);
                }
            }
            most = Math.max(most, left.isEmpty() ? 0 : questionsFor(left, asked | 1 << q));
        }
        return 1 + most;
    }

    int sure(int has, int hasNot, int what) {
        if (has < 0 || has > 127 || hasNot < 0 || hasNot > 127 || what < 0 || what > 1) {
            return BAD;
        }
        List<Integer> possible = new ArrayList<>();
        for (int state : allStates()) {
            boolean fits = true;
            for (int q = 0; q < n; q++) {
                boolean isIn = (state >> q & 1) == 1;
                fits &= isIn || (has >> q & 1) == 0;
                fits &= !isIn || (hasNot >> q & 1) == 0;
            }
            if (fits) {
                possible.add(state);
            }
        }
        if (possible.isEmpty()) {
            return NOT;
        }
        if (possible.size() > 14) {
            return FULL;
        }
        int fewest = questionsFor(possible, 0);
        if (what == 0) {
            return fewest;
        }
        for (int q = 0; q < n && fewest > 0; q++) {
            if (questionsBehind(possible, 0, q) == fewest) {
                return q;
            }
        }
        return NONE;
    }

    private BigInteger chanceAbove(int pupil, int set, int slip, int luck) {
        BigInteger above = BigInteger.ONE;
        for (int q = 0; q < n; q++) {
            int v = said(pupil, q);
            if (v != 2) {
                int yes = (set >> q & 1) == 1 ? 16 - slip : luck;
                above = above.multiply(BigInteger.valueOf(v == 1 ? yes : 16 - yes));
            }
        }
        return above;
    }

    private boolean badChance(int pupil, int set, int slip, int luck, int what) {
        return badPupil(pupil) || set < 0 || set > 127 || slip < 0 || slip > 16 || luck < 0 || luck > 16
                || what < 0 || what > 1;
    }

    long chance(int pupil, int set, int slip, int luck, int what) {
        if (badChance(pupil, set, slip, luck, what)) {
            return Long.MIN_VALUE + 2;
        }
        int answers = 0;
        for (int q = 0; q < n; q++) {
            answers += said(pupil, q) == 2 ? 0 : 1;
        }
        return lowest(chanceAbove(pupil, set, slip, luck), BigInteger.valueOf(16).pow(answers), what);
    }

    long share(int pupil, int set, int slip, int luck, int what) {
        if (badChance(pupil, set, slip, luck, what) || !allStates().contains(set % (1 << n))) {
            return Long.MIN_VALUE + 2;
        }
        BigInteger all = BigInteger.ZERO;
        for (int state : allStates()) {
            all = all.add(chanceAbove(pupil, state, slip, luck));
        }
        if (all.signum() == 0) {
            return Long.MIN_VALUE + 3;
        }
        return lowest(chanceAbove(pupil, set, slip, luck), all, what);
    }

    int likeliest(int pupil, int slip, int luck) {
        if (badChance(pupil, 0, slip, luck, 0)) {
            return BAD;
        }
        int likeliest = 0;
        for (int state : allStates()) {
            BigInteger above = chanceAbove(pupil, state, slip, luck);
            if (above.compareTo(chanceAbove(pupil, likeliest, slip, luck)) > 0) {
                likeliest = state;
            }
        }
        return likeliest;
    }

    // ---- lessons

    int lessons(int k, int i) {
        if (k < 0 || k > 4 || i < NONE || i >= k) {
            return BAD;
        }
        List<Integer> states = allStates();
        List<Integer> starts = new ArrayList<>();
        for (int p = 0; p < 12; p++) {
            boolean gaveSome = false;
            for (int q = 0; q < n; q++) {
                gaveSome |= said(p, q) != 2;
            }
            if (gaveSome) {
                starts.add(belongsTo(p, states));
            }
        }
        int most = -1;
        int[] best = {};
        int rows = (int) Math.pow(n, k);
        for (int code = 0; code < rows; code++) {
            int[] row = new int[k];
            int rest = code;
            for (int place = k - 1; place >= 0; place--) {
                row[place] = rest % n;
                rest /= n;
            }
            int learnt = learnt(row, starts, states);
            if (learnt > most) {
                most = learnt;
                best = row;
            }
        }
        return i == NONE ? most : best[i];
    }

    private static int learnt(int[] row, List<Integer> starts, List<Integer> states) {
        int learnt = 0;
        for (int has : starts) {
            for (int q : row) {
                if ((has >> q & 1) == 0 && states.contains(has + (1 << q))) {
                    has += 1 << q;
                    learnt++;
                }
            }
        }
        return learnt;
    }

    // ---- sheets

    private int found(int number) {
        finding = number;
        return -10 - number;
    }

    private int size(int s) {
        return java.lang.reflect.Array.getLength(sheets[s]);
    }

    private int item(int s, int i) {
        return java.lang.reflect.Array.getInt(sheets[s], i);
    }

    int sheet(int s, int form, int items) {
        if (badSheet(s) || badForm(form) || items > 60) {
            return BAD;
        }
        try {
            sheets[s] = form == 0 ? new byte[items] : form == 1 ? (Object) new short[items] : new int[items];
            return items;
        } catch (NegativeArraySizeException e) {
            return found(5);
        }
    }

    int lose(int s) {
        if (badSheet(s)) {
            return BAD;
        }
        if (sheets[s] == null) {
            return found(1);
        }
        int had = size(s);
        sheets[s] = null;
        return had;
    }

    int lay(int s, int form, int i, int v) {
        if (badSheet(s) || badForm(form)) {
            return BAD;
        }
        try {
            if (form == 0) {
                ((byte[]) present(sheets[s]))[i] = (byte) v;
            } else if (form == 1) {
                ((short[]) present(sheets[s]))[i] = (short) v;
            } else {
                ((int[]) present(sheets[s]))[i] = v;
            }
            return 1;
        } catch (RuntimeException e) {
            return found(numberOf(e));
        }
    }

    int get(int s, int form, int i) {
        if (badSheet(s) || badForm(form)) {
            return Integer.MIN_VALUE;
        }
        try {
            return form == 0 ? ((byte[]) present(sheets[s]))[i]
                    : form == 1 ? ((short[]) present(sheets[s]))[i] : ((int[]) present(sheets[s]))[i];
        } catch (RuntimeException e) {
            found(numberOf(e));
            return Integer.MIN_VALUE;
        }
    }

    int copy(int s, int i, int t, int j, int items) {
        if (badSheet(s) || badSheet(t)) {
            return BAD;
        }
        try {
            System.arraycopy(sheets[s], i, sheets[t], j, items);
            return 1;
        } catch (RuntimeException e) {
            return found(numberOf(e));
        }
    }

    private static Object present(Object sheet) {
        return java.util.Objects.requireNonNull(sheet);
    }

    private static int numberOf(RuntimeException e) {
        return e instanceof NullPointerException ? 1 : e instanceof IndexOutOfBoundsException ? 2
                : e instanceof ClassCastException ? 3 : e instanceof ArrayStoreException ? 4 : 0;
    }

    int write(int s) {
        if (badSheet(s)) {
            return BAD;
        }
        if (sheets[s] == null) {
            return found(1);
        }
        int p = 0;
        for (; p < 12 && p < size(s); p++) {
            int form = sheets[s] instanceof byte[] ? 0 : sheets[s] instanceof short[] ? 1 : 2;
            lay(s, form, p, belongs(p, 0));
        }
        return p;
    }

    int count(int what) {
        int given = 0;
        int yes = 0;
        int pupils = 0;
        for (int[] said : table()) {
            boolean gaveSome = false;
            for (int v : said) {
                given += v == 2 ? 0 : 1;
                yes += v == 1 ? 1 : 0;
                gaveSome |= v != 2;
            }
            pupils += gaveSome ? 1 : 0;
        }
        int parts = fault() == NONE ? (text.length() + 1) / 4 : 0;
        int[] counts = {n, tellings.size(), given, yes, pupils, text.length(), parts, slack, finding};
        return what < 0 || what > 8 ? BAD : counts[what];
    }

    long digest() {
        long[] h = {17};
        for (int what = 0; what <= 7; what++) {
            add(h, count(what));
        }
        add(h, fault());
        for (int p = 0; p < 12; p++) {
            add(h, step(p, 0), step(p, 1), belongs(p, 0), belongs(p, 1), belongs(p, 2), likeliest(p, 2, 3));
        }
        add(h, off(0), off(1));
        for (int q = 0; q < n; q++) {
            int other = q == n - 1 ? 0 : q + 1;
            add(h, row(q), without(q, 0), without(q, 1), deep(q), needed(q, other, 0), needed(q, other, 1));
        }
        add(h, fit(0, 0), fit(0, 1), fit(1, 0), fit(1, 1), odd(), worst(0), worst(1));
        add(h, states(NONE), paths(), sure(0, 0, 0), sure(0, 0, 1), lessons(2, NONE));
        return h[0];
    }

    private static void add(long[] h, long... parts) {
        for (long part : parts) {
            h[0] = h[0] * 31 + part;
        }
    }

    private static boolean badPupil(int pupil) {
        return pupil < 0 || pupil > 11;
    }

    private boolean badQuestion(int question) {
        return question < 0 || question >= n;
    }

    private static boolean badSheet(int s) {
        return s < 0 || s > 3;
    }

    private static boolean badForm(int form) {
        return form < 0 || form > 2;
    }
}
