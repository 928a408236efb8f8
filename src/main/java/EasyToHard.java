import java.util.Arrays;

/**
 * What pupils answered to questions, and what follows from it: the best order from easy to hard,
 * which question needs which, what each pupil has mastered, and which lessons bring the most.
 *
 * <p>Every row that a call works on is made with the object and used again, so no call makes any.
 */
public final class EasyToHard {
    public static final int NONE = -1, BAD = -2, NOT = -3, FULL = -4;

    private static final int PUPILS = 12, QUESTIONS = 7, FIRST_N = 5, SETS = 1 << QUESTIONS;
    private static final int NO = 0, YES = 1, SILENT = 2;
    private static final int LATEST = 999, MOST_TELLINGS = 160;
    private static final int MOST_BYTES = 60, PART = 3;
    private static final int MOST_ASKED_ABOUT = 14, MOST_LESSONS = 4, SIXTEENTHS = 16;
    private static final int SHEETS = 4, FORMS = 3, MOST_ITEMS = 60;

    private static final int SIZE_OF_TEST = 0, AS_OF = 1, SLACK = 2, WHICH = 3, SETTINGS = 4;
    private static final int[] LEAST_SETTING = {2, 0, 0, 0};
    private static final int[] MOST_SETTING = {QUESTIONS, LATEST, 9, 1};

    private static final int TOLD = 0, FOUND = 1;
    private static final int LEFT_OUT = 0, TURNED = 1;

    private static final int NULL_FINDING = 1, INDEX_FINDING = 2, CAST_FINDING = 3;
    private static final int STORE_FINDING = 4, SIZE_FINDING = 5;

    private final int[] settings = {FIRST_N, LATEST, 0, TOLD};
    private final Answers answers = new Answers();
    private final NeedsText text = new NeedsText();
    private final Rows rows = new Rows();
    private final States space = new States();
    private final Asking asking = new Asking();
    private final Plan plan = new Plan();
    private final Sheet[] sheets = new Sheet[SHEETS];
    private int latestFinding;

    public EasyToHard() {
        for (int s = 0; s < SHEETS; s++) {
            sheets[s] = new Sheet();
        }
    }

    // ---- answers, needs

    public int set(int what, int v) {
        if (!within(what, SETTINGS) || v < LEAST_SETTING[what] || v > MOST_SETTING[what]) {
            return BAD;
        }
        int was = settings[what];
        settings[what] = v;
        if (what == SIZE_OF_TEST || what == AS_OF) {
            answers.countAnew(settings[SIZE_OF_TEST], settings[AS_OF]);
            rows.fresh = false;
        }
        space.fresh = false;
        return was;
    }

    public int answer(int pupil, int question, int v, int time) {
        if (!within(pupil, PUPILS) || !within(question, QUESTIONS) || !within(v, SILENT + 1)
                || !answers.timeFits(time)) {
            return BAD;
        }
        if (answers.isFull()) {
            return FULL;
        }
        tellOne(pupil, question, v, time);
        return answers.told;
    }

    public int read(int s, int pupil, int time) {
        if (!within(s, SHEETS) || !within(pupil, PUPILS) || !answers.timeFits(time)) {
            return BAD;
        }
        Sheet sheet = sheets[s];
        if (sheet.lost) {
            return tellFinding(NULL_FINDING);
        }
        int most = Math.min(QUESTIONS, sheet.size);
        for (int i = 0; i < most; i++) {
            int v = sheet.items[i];
            if (!within(v, SILENT + 1) || answers.isFull()) {
                return i;
            }
            tellOne(pupil, i, v, time);
        }
        return most;
    }

    public int said(int pupil, int question) {
        if (!within(pupil, PUPILS) || !within(question, QUESTIONS)) {
            return BAD;
        }
        return answers.heard(pupil, question);
    }

    public int type(int b) {
        if (!within(b, 256)) {
            return BAD;
        }
        if (text.length >= MOST_BYTES) {
            return FULL;
        }
        text.append(b);
        space.fresh = false;
        return text.length;
    }

    public int wipe() {
        int had = text.length;
        text.clear();
        space.fresh = false;
        return had;
    }

    public int fault() {
        return text.faultPlace;
    }

    public int needed(int a, int b, int which) {
        if (!isQuestion(a) || !isQuestion(b) || a == b || !within(which, 2)) {
            return BAD;
        }
        return (needsOf(b, which) & (1 << a)) != 0 ? 1 : 0;
    }

    // ---- rows

    public int errors(int pupil, int set) {
        if (!within(pupil, PUPILS) || !within(set, SETS)) {
            return BAD;
        }
        return answers.errorsWith(pupil, set);
    }

    public int off(int what) {
        if (!within(what, 2)) {
            return BAD;
        }
        rows.searchBest(answers);
        return what == 0 ? rows.bestOff : rows.bestWays;
    }

    public int row(int i) {
        if (!isQuestion(i)) {
            return BAD;
        }
        rows.searchBest(answers);
        return rows.best[i];
    }

    public int step(int pupil, int what) {
        if (!within(pupil, PUPILS) || !within(what, 2)) {
            return BAD;
        }
        rows.searchBest(answers);
        return what == 0 ? answers.stepIn(pupil, rows.best) : answers.offIn(pupil, rows.best);
    }

    public int offBy(int s) {
        if (!within(s, SHEETS)) {
            return BAD;
        }
        Sheet sheet = sheets[s];
        if (sheet.lost) {
            return tellFinding(NULL_FINDING);
        }
        if (!isRow(sheet)) {
            return NOT;
        }
        int off = 0;
        for (int pupil = 0; pupil < PUPILS; pupil++) {
            off += answers.offIn(pupil, sheet.items);
        }
        return off;
    }

    public long fit(int which, int what) {
        if (!within(which, 2) || !within(what, 2)) {
            return refusal(BAD);
        }
        int all = answers.givenByAll();
        if (all == 0) {
            return refusal(NOT);
        }
        rows.searchBest(answers);
        int fitting = which == 0 ? all - rows.bestOff : answers.largerShares();
        return lowestTerm(fitting, all, what);
    }

    public int odd() {
        rows.searchBest(answers);
        int oddest = NONE;
        int most = 0;
        for (int pupil = 0; pupil < PUPILS; pupil++) {
            int off = answers.offIn(pupil, rows.best);
            if (off > most) {
                most = off;
                oddest = pupil;
            }
        }
        return oddest;
    }

    public int without(int question, int how) {
        if (!isQuestion(question) || !within(how, 2)) {
            return BAD;
        }
        rows.searchBest(answers);
        return rows.offChanged(question, how);
    }

    public int worst(int how) {
        if (!within(how, 2)) {
            return BAD;
        }
        rows.searchBest(answers);
        int least = 0;
        for (int question = 1; question < answers.n; question++) {
            if (rows.offChanged(question, how) < rows.offChanged(least, how)) {
                least = question;
            }
        }
        return least;
    }

    // ---- states

    public int states(int i) {
        if (i < NONE) {
            return BAD;
        }
        findStates();
        if (i == NONE) {
            return space.size;
        }
        return i < space.size ? space.list[i] : NONE;
    }

    public int belongs(int pupil, int what) {
        if (!within(pupil, PUPILS) || !within(what, 3)) {
            return BAD;
        }
        findStates();
        int state = stateOf(pupil);
        if (what == 0) {
            return state;
        }
        int fewest = answers.errorsWith(pupil, state);
        return what == 1 ? fewest : statesWithErrors(pupil, fewest);
    }

    public int next(int set, int what) {
        if (!within(set, SETS) || !within(what, 3)) {
            return BAD;
        }
        findStates();
        int inTest = set & space.all;
        if (what == 2) {
            return space.isState[inTest] ? 1 : 0;
        }
        return space.neighbours(inTest) & (what == 0 ? ~inTest : inTest);
    }

    public int paths() {
        findStates();
        return space.waysToAll();
    }

    public int deep(int question) {
        if (!isQuestion(question)) {
            return BAD;
        }
        findStates();
        int least = answers.n;
        for (int i = 0; i < space.size; i++) {
            if ((space.list[i] & (1 << question)) != 0) {
                least = Math.min(least, Integer.bitCount(space.list[i]));
            }
        }
        return least;
    }

    // ---- sure, chances

    public int sure(int has, int hasNot, int what) {
        if (!within(has, SETS) || !within(hasNot, SETS) || !within(what, 2)) {
            return BAD;
        }
        findStates();
        int possible = asking.begin(space, has & space.all, hasNot & space.all);
        if (possible == 0) {
            return NOT;
        }
        if (possible > MOST_ASKED_ABOUT) {
            return FULL;
        }
        int fewest = asking.fewest();
        return what == 0 ? fewest : asking.first(fewest);
    }

    public long chance(int pupil, int set, int slip, int luck, int what) {
        if (!chanceFits(pupil, set, slip, luck) || !within(what, 2)) {
            return refusal(BAD);
        }
        return lowestTerm(answers.chanceAbove(pupil, set, slip, luck), answers.chanceBelow(pupil), what);
    }

    public long share(int pupil, int set, int slip, int luck, int what) {
        if (!chanceFits(pupil, set, slip, luck) || !within(what, 2)) {
            return refusal(BAD);
        }
        findStates();
        int inTest = set & space.all;
        if (!space.isState[inTest]) {
            return refusal(BAD);
        }
        long all = 0;
        for (int i = 0; i < space.size; i++) {
            all += answers.chanceAbove(pupil, space.list[i], slip, luck);
        }
        if (all == 0) {
            return refusal(NOT);
        }
        return lowestTerm(answers.chanceAbove(pupil, inTest, slip, luck), all, what);
    }

    public int likeliest(int pupil, int slip, int luck) {
        if (!chanceFits(pupil, 0, slip, luck)) {
            return BAD;
        }
        findStates();
        int likely = 0;
        long most = -1;
        for (int i = 0; i < space.size; i++) {
            long above = answers.chanceAbove(pupil, space.list[i], slip, luck);
            if (above > most) {
                most = above;
                likely = space.list[i];
            }
        }
        return likely;
    }

    // ---- lessons

    public int lessons(int k, int i) {
        if (!within(k, MOST_LESSONS + 1) || i < NONE || i >= k) {
            return BAD;
        }
        findStates();
        plan.begin();
        for (int pupil = 0; pupil < PUPILS; pupil++) {
            if (answers.given(pupil) > 0) {
                plan.admit(stateOf(pupil));
            }
        }
        plan.choose(k, space);
        return i == NONE ? plan.most : plan.best[i];
    }

    // ---- sheets

    public int sheet(int s, int form, int n) {
        if (!within(s, SHEETS) || !within(form, FORMS) || n > MOST_ITEMS) {
            return BAD;
        }
        if (n < 0) {
            return tellFinding(SIZE_FINDING);
        }
        sheets[s].renew(form, n);
        return n;
    }

    public int lose(int s) {
        if (!within(s, SHEETS)) {
            return BAD;
        }
        if (sheets[s].lost) {
            return tellFinding(NULL_FINDING);
        }
        sheets[s].lost = true;
        return sheets[s].size;
    }

    public int lay(int s, int form, int i, int v) {
        if (!within(s, SHEETS) || !within(form, FORMS)) {
            return BAD;
        }
        int finding = sheets[s].findingAt(form, i);
        if (finding != 0) {
            return tellFinding(finding);
        }
        sheets[s].put(i, v);
        return 1;
    }

    public int get(int s, int form, int i) {
        if (!within(s, SHEETS) || !within(form, FORMS)) {
            return Integer.MIN_VALUE;
        }
        int finding = sheets[s].findingAt(form, i);
        if (finding != 0) {
            latestFinding = finding;
            return Integer.MIN_VALUE;
        }
        return sheets[s].items[i];
    }

    public int copy(int s, int i, int t, int j, int n) {
        if (!within(s, SHEETS) || !within(t, SHEETS)) {
            return BAD;
        }
        Sheet from = sheets[s];
        Sheet to = sheets[t];
        if (from.lost || to.lost) {
            return tellFinding(NULL_FINDING);
        }
        if (from.form != to.form) {
            return tellFinding(STORE_FINDING);
        }
        if (!from.hasRange(i, n) || !to.hasRange(j, n)) {
            return tellFinding(INDEX_FINDING);
        }
        System.arraycopy(from.items, i, to.items, j, n);
        return 1;
    }

    public int write(int s) {
        if (!within(s, SHEETS)) {
            return BAD;
        }
        Sheet sheet = sheets[s];
        if (sheet.lost) {
            return tellFinding(NULL_FINDING);
        }
        findStates();
        int most = Math.min(PUPILS, sheet.size);
        for (int pupil = 0; pupil < most; pupil++) {
            sheet.put(pupil, stateOf(pupil));
        }
        return most;
    }

    public int count(int what) {
        switch (what) {
            case 0: return answers.n;
            case 1: return answers.told;
            case 2: return answers.givenByAll();
            case 3: return answers.yesByAll();
            case 4: return answers.pupilsWithSome();
            case 5: return text.length;
            case 6: return text.parts;
            case 7: return settings[SLACK];
            case 8: return latestFinding;
            default: return BAD;
        }
    }

    public long digest() {
        long h = 17;
        for (int what = 0; what <= 7; what++) {
            h = join(h, count(what));
        }
        h = join(h, fault());
        for (int pupil = 0; pupil < PUPILS; pupil++) {
            h = joinPupil(h, pupil);
        }
        h = join(join(h, off(0)), off(1));
        for (int question = 0; question < answers.n; question++) {
            h = joinQuestion(h, question);
        }
        for (int which = 0; which < 2; which++) {
            h = join(join(h, fit(which, 0)), fit(which, 1));
        }
        h = join(join(join(h, odd()), worst(0)), worst(1));
        h = join(join(h, states(NONE)), paths());
        h = join(join(h, sure(0, 0, 0)), sure(0, 0, 1));
        return join(h, lessons(2, NONE));
    }

    private static long join(long h, long part) {
        return 31 * h + part;
    }

    private long joinPupil(long before, int pupil) {
        long h = join(join(before, step(pupil, 0)), step(pupil, 1));
        for (int what = 0; what < 3; what++) {
            h = join(h, belongs(pupil, what));
        }
        return join(h, likeliest(pupil, 2, 3));
    }

    private long joinQuestion(long before, int question) {
        int other = question + 1 < answers.n ? question + 1 : 0;
        long h = join(before, row(question));
        h = join(join(h, without(question, LEFT_OUT)), without(question, TURNED));
        h = join(h, deep(question));
        return join(join(h, needed(question, other, TOLD)), needed(question, other, FOUND));
    }

    // ---- what the calls share

    private static boolean within(int v, int bound) {
        return v >= 0 && v < bound;
    }

    private boolean isQuestion(int v) {
        return within(v, answers.n);
    }

    private static boolean chanceFits(int pupil, int set, int slip, int luck) {
        return within(pupil, PUPILS) && within(set, SETS)
                && within(slip, SIXTEENTHS + 1) && within(luck, SIXTEENTHS + 1);
    }

    private static long refusal(int x) {
        return Long.MIN_VALUE - x;
    }

    private int tellFinding(int number) {
        latestFinding = number;
        return -10 - number;
    }

    private void tellOne(int pupil, int question, int v, int time) {
        answers.tell(pupil, question, v, time);
        rows.fresh = false;
        space.fresh = false;
    }

    private boolean isRow(Sheet sheet) {
        if (sheet.size < answers.n) {
            return false;
        }
        int seen = 0;
        for (int i = 0; i < answers.n; i++) {
            if (!isQuestion(sheet.items[i])) {
                return false;
            }
            seen |= 1 << sheet.items[i];
        }
        return seen == answers.all;
    }

    private int needsOf(int question, int which) {
        if (which == FOUND) {
            return answers.foundFor(question, settings[SLACK]);
        }
        return text.needs[question] & answers.all;
    }

    private void findStates() {
        if (space.fresh) {
            return;
        }
        space.begin(answers.n);
        for (int question = 0; question < answers.n; question++) {
            space.needs[question] = needsOf(question, settings[WHICH]);
        }
        space.gather();
    }

    private int stateOf(int pupil) {
        int state = 0;
        int fewest = QUESTIONS + 1;
        for (int i = 0; i < space.size; i++) {
            int errors = answers.errorsWith(pupil, space.list[i]);
            if (errors < fewest) {
                fewest = errors;
                state = space.list[i];
            }
        }
        return state;
    }

    private int statesWithErrors(int pupil, int errors) {
        int number = 0;
        for (int i = 0; i < space.size; i++) {
            if (answers.errorsWith(pupil, space.list[i]) == errors) {
                number++;
            }
        }
        return number;
    }

    private static long lowestTerm(long above, long below, int what) {
        long common = commonDivisor(above, below);
        long term = what == 0 ? above : below;
        return common > 0 ? term / common : term;
    }

    private static long commonDivisor(long above, long below) {
        long larger = below;
        long smaller = above;
        // Euclid's rests at least halve every two turns: 130 are more than a long can need.
        for (int turn = 0; turn < 130 && smaller != 0; turn++) {
            long rest = larger % smaller;
            larger = smaller;
            smaller = rest;
        }
        return larger;
    }

    /** All that was told, and of it what counts as of the time that is set. */
    private static final class Answers {
        private static final int STEP_BITS = 3;

        private final byte[] pupils = new byte[MOST_TELLINGS];
        private final byte[] questions = new byte[MOST_TELLINGS];
        private final byte[] values = new byte[MOST_TELLINGS];
        private final short[] times = new short[MOST_TELLINGS];
        // Of each pupil, bits of all seven questions: n may grow again, so those beyond it are kept.
        private final int[] yes = new int[PUPILS];
        private final int[] no = new int[PUPILS];
        // The same by questions: bits of the pupils who said so.
        private final int[] whoYes = new int[QUESTIONS];
        private final int[] whoNo = new int[QUESTIONS];
        private int told;
        private int n = FIRST_N;
        private int all = (1 << FIRST_N) - 1;
        private int asOf = LATEST;

        boolean isFull() {
            return told >= MOST_TELLINGS;
        }

        boolean timeFits(int time) {
            return time >= 0 && time <= LATEST && (told == 0 || time >= times[told - 1]);
        }

        void tell(int pupil, int question, int v, int time) {
            if (isFull()) {
                return;
            }
            pupils[told] = (byte) pupil;
            questions[told] = (byte) question;
            values[told] = (byte) v;
            times[told] = (short) time;
            told++;
            if (time <= asOf) {
                hear(pupil, question, v);
            }
        }

        void countAnew(int questionsInTest, int time) {
            n = questionsInTest;
            all = (1 << n) - 1;
            asOf = time;
            Arrays.fill(yes, 0);
            Arrays.fill(no, 0);
            Arrays.fill(whoYes, 0);
            Arrays.fill(whoNo, 0);
            for (int i = 0; i < told && times[i] <= asOf; i++) {
                hear(pupils[i], questions[i], values[i]);
            }
        }

        private void hear(int pupil, int question, int v) {
            yes[pupil] = withBit(yes[pupil], question, v == YES);
            no[pupil] = withBit(no[pupil], question, v == NO);
            whoYes[question] = withBit(whoYes[question], pupil, v == YES);
            whoNo[question] = withBit(whoNo[question], pupil, v == NO);
        }

        private static int withBit(int bits, int place, boolean on) {
            int bit = 1 << place;
            return on ? bits | bit : bits & ~bit;
        }

        int heard(int pupil, int question) {
            int bit = 1 << question;
            if ((yes[pupil] & bit) != 0) {
                return YES;
            }
            return (no[pupil] & bit) != 0 ? NO : SILENT;
        }

        int yesOf(int pupil) {
            return yes[pupil] & all;
        }

        int noOf(int pupil) {
            return no[pupil] & all;
        }

        int given(int pupil) {
            return Integer.bitCount(yesOf(pupil) | noOf(pupil));
        }

        int givenByAll() {
            int number = 0;
            for (int pupil = 0; pupil < PUPILS; pupil++) {
                number += given(pupil);
            }
            return number;
        }

        int yesByAll() {
            int number = 0;
            for (int pupil = 0; pupil < PUPILS; pupil++) {
                number += Integer.bitCount(yesOf(pupil));
            }
            return number;
        }

        int pupilsWithSome() {
            int number = 0;
            for (int pupil = 0; pupil < PUPILS; pupil++) {
                number += given(pupil) > 0 ? 1 : 0;
            }
            return number;
        }

        int largerShares() {
            int number = 0;
            for (int question = 0; question < n; question++) {
                number += Math.max(Integer.bitCount(whoYes[question]), Integer.bitCount(whoNo[question]));
            }
            return number;
        }

        /** Bits of the questions that are found to be needed for one. */
        int foundFor(int question, int slack) {
            int needs = 0;
            for (int other = 0; other < n; other++) {
                int against = Integer.bitCount(whoYes[question] & whoNo[other]);
                int inFavour = Integer.bitCount(whoNo[question] & whoYes[other]);
                if (other != question && against <= slack && against < inFavour) {
                    needs |= 1 << other;
                }
            }
            return needs;
        }

        int errorsWith(int pupil, int set) {
            return Integer.bitCount(yesOf(pupil) & ~set) + Integer.bitCount(noOf(pupil) & set);
        }

        int offIn(int pupil, int[] row) {
            return standing(pupil, row) >> STEP_BITS;
        }

        int stepIn(int pupil, int[] row) {
            return standing(pupil, row) & ((1 << STEP_BITS) - 1);
        }

        /** The fewest errors by a row above the least step that has them: one number to compare by. */
        private int standing(int pupil, int[] row) {
            int set = 0;
            int least = errorsWith(pupil, set) << STEP_BITS;
            for (int i = 0; i < n && i < row.length; i++) {
                set |= 1 << row[i];
                least = Math.min(least, (errorsWith(pupil, set) << STEP_BITS) | (i + 1));
            }
            return least;
        }

        /** The chance times sixteen to the number of answers, so that it stays a whole number. */
        long chanceAbove(int pupil, int set, int slip, int luck) {
            int yesNow = yesOf(pupil);
            int noNow = noOf(pupil);
            return power(SIXTEENTHS - slip, Integer.bitCount(yesNow & set))
                    * power(slip, Integer.bitCount(noNow & set))
                    * power(luck, Integer.bitCount(yesNow & ~set))
                    * power(SIXTEENTHS - luck, Integer.bitCount(noNow & ~set));
        }

        long chanceBelow(int pupil) {
            return power(SIXTEENTHS, given(pupil));
        }

        private static long power(long base, int times) {
            long product = 1;
            for (int i = 0; i < times; i++) {
                product *= base;
            }
            return product;
        }
    }

    /** The text of needs, read anew with each change; with a fault it tells none. */
    private static final class NeedsText {
        private final int[] bytes = new int[MOST_BYTES];
        private final int[] needs = new int[QUESTIONS];
        // What each question needs, by way of others too: a circle shows as soon as it would close.
        private final int[] reach = new int[QUESTIONS];
        private int length;
        private int parts;
        private int faultPlace = NONE;

        void append(int b) {
            if (length < MOST_BYTES) {
                bytes[length] = b;
                length++;
                readParts();
            }
        }

        void clear() {
            length = 0;
            readParts();
        }

        private void readParts() {
            forgetParts();
            faultPlace = length == 0 ? NONE : firstFault();
            if (faultPlace != NONE) {
                forgetParts();
            }
        }

        private void forgetParts() {
            Arrays.fill(needs, 0);
            Arrays.fill(reach, 0);
            parts = 0;
        }

        private int firstFault() {
            for (int start = 0; start <= length; start += PART + 1) {
                int fault = faultOfPart(start);
                if (fault != NONE) {
                    return fault;
                }
                tellPart(letterAt(start), letterAt(start + 2));
                int end = start + PART;
                if (end >= length) {
                    return NONE;
                }
                if (bytes[end] != ';') {
                    return end;
                }
            }
            return length;
        }

        private int faultOfPart(int start) {
            if (letterAt(start) == NONE) {
                return start;
            }
            if (start + 1 >= length || bytes[start + 1] != '<') {
                return start + 1;
            }
            if (letterAt(start + 2) == NONE || closesCircle(letterAt(start), letterAt(start + 2))) {
                return start + 2;
            }
            return NONE;
        }

        private int letterAt(int place) {
            if (place >= length || bytes[place] < 'a' || bytes[place] > 'g') {
                return NONE;
            }
            return bytes[place] - 'a';
        }

        private boolean closesCircle(int first, int second) {
            return first == second || (reach[first] & (1 << second)) != 0;
        }

        private void tellPart(int first, int second) {
            if (first < 0 || second < 0) {
                return;
            }
            needs[second] |= 1 << first;
            int gained = reach[first] | (1 << first);
            for (int question = 0; question < QUESTIONS; question++) {
                if (question == second || (reach[question] & (1 << second)) != 0) {
                    reach[question] |= gained;
                }
            }
            parts++;
        }
    }

    /**
     * The search for the best row. The errors of all pupils stand side by side in one long, four
     * bits each (they are 0 to 7, so the highest of the four is free): one step of the search then
     * takes a few operations, whatever the number of pupils.
     */
    private static final class Rows {
        private static final int LANE = 4;
        private static final long FREE_BITS = 0x888888888888L;
        private static final long EVEN_LANES = 0x0F0F0F0F0F0F0F0FL, BYTES = 0x0101010101010101L;

        private final long[] yes = new long[QUESTIONS];
        private final long[] no = new long[QUESTIONS];
        private final long[] errorsOfSet = new long[SETS];
        // No set that holds this one has fewer errors than these: so much is sure for all rows to come.
        private final long[] floorOfSet = new long[SETS];
        private final int[] trial = new int[QUESTIONS];
        private final int[] best = new int[QUESTIONS];
        private final int[] changedOff = new int[2 * QUESTIONS];
        private boolean fresh;
        private boolean seeksBest;
        private int n;
        private int all;
        private int goal;
        private int fewest;
        private int ways;
        private int bestOff;
        private int bestWays;

        void searchBest(Answers answers) {
            if (fresh) {
                return;
            }
            takeAnswers(answers);
            Arrays.fill(changedOff, NONE);
            seeksBest = true;
            search(all);
            seeksBest = false;
            bestOff = fewest;
            bestWays = ways;
            fresh = true;
        }

        int offChanged(int question, int how) {
            int place = how * QUESTIONS + question;
            if (changedOff[place] == NONE) {
                if (how == TURNED) {
                    turn(question);
                    search(all);
                    turn(question);
                } else {
                    search(all & ~(1 << question));
                }
                changedOff[place] = fewest;
            }
            return changedOff[place];
        }

        private void takeAnswers(Answers answers) {
            n = answers.n;
            all = answers.all;
            Arrays.fill(yes, 0L);
            Arrays.fill(no, 0L);
            for (int pupil = 0; pupil < PUPILS; pupil++) {
                long one = 1L << (LANE * pupil);
                for (int question = 0; question < n; question++) {
                    int v = answers.heard(pupil, question);
                    yes[question] += v == YES ? one : 0;
                    no[question] += v == NO ? one : 0;
                }
            }
        }

        private void turn(int question) {
            long was = yes[question];
            yes[question] = no[question];
            no[question] = was;
        }

        private void search(int questions) {
            goal = questions;
            fillTables();
            // Every row begins with nothing and ends with all, so it is no worse than the better of these.
            long start = lesser(errorsOfSet[0], errorsOfSet[goal]);
            fewest = total(start);
            ways = 0;
            extend(0, 0, start);
        }

        private void fillTables() {
            errorsOfSet[0] = 0;
            floorOfSet[0] = 0;
            for (int question = 0; question < n; question++) {
                errorsOfSet[0] += (goal & (1 << question)) != 0 ? yes[question] : 0;
            }
            for (int set = 1; set <= goal; set++) {
                if ((set & ~goal) == 0) {
                    int question = Integer.numberOfTrailingZeros(set);
                    int rest = set & (set - 1);
                    errorsOfSet[set] = errorsOfSet[rest] + no[question] - yes[question];
                    floorOfSet[set] = floorOfSet[rest] + no[question];
                }
            }
        }

        private void extend(int place, int used, long off) {
            if (place >= n) {
                return;
            }
            for (int question = 0; question < n; question++) {
                int bit = 1 << question;
                if ((goal & ~used & bit) == 0) {
                    continue;
                }
                int set = used | bit;
                long offNow = lesser(off, errorsOfSet[set]);
                if (!isHopeless(total(lesser(offNow, floorOfSet[set])))) {
                    trial[place] = question;
                    if (set == goal) {
                        judge(total(offNow));
                    } else {
                        extend(place + 1, set, offNow);
                    }
                }
            }
        }

        /** Rows that do as well as the best are counted for BEST alone; else only better ones matter. */
        private boolean isHopeless(int floor) {
            return seeksBest ? floor > fewest : floor >= fewest;
        }

        private void judge(int off) {
            if (off < fewest || ways == 0) {
                fewest = off;
                ways = 0;
                for (int i = 0; i < n && seeksBest; i++) {
                    best[i] = trial[i];
                }
            }
            ways++;
        }

        private static long lesser(long x, long y) {
            long notLess = ((x | FREE_BITS) - y) & FREE_BITS;
            long takesY = notLess - (notLess >>> (LANE - 1));
            return (y & takesY) | (x & ~takesY);
        }

        private static int total(long lanes) {
            long sumsOfTwo = (lanes & EVEN_LANES) + ((lanes >>> LANE) & EVEN_LANES);
            return (int) ((sumsOfTwo * BYTES) >>> 56);
        }
    }

    /** The states: sets that hold with each question all that it needs. */
    private static final class States {
        private final int[] needs = new int[QUESTIONS];
        private final boolean[] isState = new boolean[SETS];
        private final int[] list = new int[SETS];
        private final int[] waysTo = new int[SETS];
        private boolean fresh;
        private int n;
        private int all;
        private int size;

        void begin(int questions) {
            n = questions;
            all = (1 << n) - 1;
        }

        void gather() {
            size = 0;
            for (int set = 0; set <= all; set++) {
                isState[set] = holdsNeeds(set);
                if (isState[set]) {
                    list[size] = set;
                    size++;
                }
            }
            fresh = true;
        }

        private boolean holdsNeeds(int set) {
            for (int question = 0; question < n; question++) {
                if ((set & (1 << question)) != 0 && (needs[question] & ~set) != 0) {
                    return false;
                }
            }
            return true;
        }

        /** Bits of the questions with which, or without which, the set would be a state. */
        int neighbours(int set) {
            int bits = 0;
            for (int question = 0; question < n; question++) {
                bits |= isState[set ^ (1 << question)] ? 1 << question : 0;
            }
            return bits;
        }

        int waysToAll() {
            waysTo[0] = 1;
            for (int i = 1; i < size; i++) {
                int state = list[i];
                int before = neighbours(state) & state;
                waysTo[state] = 0;
                for (int question = 0; question < n; question++) {
                    if ((before & (1 << question)) != 0) {
                        waysTo[state] += waysTo[state ^ (1 << question)];
                    }
                }
            }
            return waysTo[all];
        }
    }

    /** Which questions to ask until one state alone is left of those that are possible. */
    private static final class Asking {
        // Of each question: bit i says that the i-th possible state has it.
        private final int[] having = new int[QUESTIONS];
        private int n;
        private int possible;

        int begin(States states, int has, int hasNot) {
            n = states.n;
            Arrays.fill(having, 0);
            int number = 0;
            for (int i = 0; i < states.size; i++) {
                int state = states.list[i];
                if ((state & has) == has && (state & hasNot) == 0) {
                    if (number < MOST_ASKED_ABOUT) {
                        note(number, state);
                    }
                    number++;
                }
            }
            possible = (1 << Math.min(number, MOST_ASKED_ABOUT)) - 1;
            return number;
        }

        private void note(int number, int state) {
            for (int question = 0; question < n; question++) {
                having[question] |= ((state >> question) & 1) << number;
            }
        }

        int fewest() {
            for (int left = 0; left < n; left++) {
                if (suffices(left, possible)) {
                    return left;
                }
            }
            return n;
        }

        int first(int left) {
            for (int question = 0; question < n && left > 0; question++) {
                if (splitsWell(question, left, possible)) {
                    return question;
                }
            }
            return NONE;
        }

        private boolean suffices(int left, int among) {
            int number = Integer.bitCount(among);
            if (number <= 1) {
                return true;
            }
            if (left <= 0 || number > 1 << left) {
                return false;
            }
            for (int question = 0; question < n; question++) {
                if (splitsWell(question, left, among)) {
                    return true;
                }
            }
            return false;
        }

        private boolean splitsWell(int question, int left, int among) {
            int yes = among & having[question];
            int no = among & ~having[question];
            return yes != 0 && no != 0 && suffices(left - 1, yes) && suffices(left - 1, no);
        }
    }

    /** The search for the lessons by which the pupils that were admitted learn the most. */
    private static final class Plan {
        // Row k is what each pupil has after k lessons.
        private final int[][] has = new int[MOST_LESSONS + 1][PUPILS];
        private final int[] trial = new int[MOST_LESSONS];
        private final int[] best = new int[MOST_LESSONS];
        private int pupils;
        private int length;
        private int most;

        void begin() {
            pupils = 0;
        }

        void admit(int state) {
            if (pupils < PUPILS) {
                has[0][pupils] = state;
                pupils++;
            }
        }

        void choose(int k, States states) {
            length = k;
            most = NONE;
            teach(0, 0, states);
        }

        private void teach(int place, int learnt, States states) {
            if (place >= length) {
                judge(learnt);
                return;
            }
            for (int question = 0; question < states.n; question++) {
                if (learnt + (length - place) * pupils <= most) {
                    return;
                }
                trial[place] = question;
                teach(place + 1, learnt + lesson(place, question, states), states);
            }
        }

        private int lesson(int place, int question, States states) {
            int bit = 1 << question;
            int learners = 0;
            for (int pupil = 0; pupil < pupils; pupil++) {
                int before = has[place][pupil];
                boolean learns = (before & bit) == 0 && states.isState[before | bit];
                has[place + 1][pupil] = learns ? before | bit : before;
                learners += learns ? 1 : 0;
            }
            return learners;
        }

        private void judge(int learnt) {
            if (learnt > most) {
                most = learnt;
                System.arraycopy(trial, 0, best, 0, length);
            }
        }
    }

    /** A row of bytes, shorts or ints; its items stand in ints, cut to the form when they are put. */
    private static final class Sheet {
        private static final int BYTES = 0, SHORTS = 1;

        private final int[] items = new int[MOST_ITEMS];
        private boolean lost = true;
        private int form;
        private int size;

        void renew(int newForm, int newSize) {
            Arrays.fill(items, 0);
            form = newForm;
            size = newSize;
            lost = false;
        }

        /** The number of the finding at an item, 0: none. */
        int findingAt(int asForm, int i) {
            if (lost) {
                return NULL_FINDING;
            }
            if (asForm != form) {
                return CAST_FINDING;
            }
            return within(i, size) ? 0 : INDEX_FINDING;
        }

        boolean hasRange(int from, int number) {
            return from >= 0 && number >= 0 && number <= size && from <= size - number;
        }

        void put(int i, int v) {
            if (within(i, size)) {
                items[i] = form == BYTES ? (byte) v : form == SHORTS ? (short) v : v;
            }
        }
    }
}
