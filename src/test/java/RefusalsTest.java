import java.lang.reflect.Method;
import java.util.ArrayList;
import java.util.Arrays;
import java.util.List;

/** Of every call: the last numbers that are taken, the first that are refused, and that refusals change nothing. */
public final class RefusalsTest {
    private static final Check C = new Check();
    private static final int LEAST = Integer.MIN_VALUE, MOST = Integer.MAX_VALUE;
    private static final int NULL = -11, INDEX = -12, CAST = -13, STORE = -14, SIZE = -15;
    private static final int BAD = EasyToHard.BAD, NOT = EasyToHard.NOT, FULL = EasyToHard.FULL;
    private static final int LATE = Scenes.LAST_TIME;

    /** A number of a call, which is taken from the least to the most of these. */
    private record Range(String name, int[] numbers, int place, int least, int most) { }

    public static void main(String[] args) throws ReflectiveOperationException {
        for (int scene = 0; scene < Scenes.NUMBER; scene++) {
            long[] untouched = Scenes.seen(Scenes.make(scene));
            for (Range range : rangesOf(Scenes.make(scene).count(0))) {
                taken(scene, range);
                refused(scene, range, untouched);
            }
        }
        refusalsOfANewObject();
        refusalsInBetween();
        refusalsOfAFullObject();
        refusalsOfLongs();
        inTheirOrder();
        C.finish();
    }

    private static List<Range> rangesOf(int n) {
        List<Range> ranges = new ArrayList<>();
        rangesOfAnswers(ranges, n);
        rangesOfRows(ranges, n);
        rangesOfStates(ranges, n);
        rangesOfSheets(ranges);
        return ranges;
    }

    /** Of each number of a call the least and the most that are taken. */
    private static void add(List<Range> ranges, String name, int[] numbers, int... bounds) {
        for (int place = 0; place < numbers.length; place++) {
            if (bounds[2 * place] != LEAST) {
                ranges.add(new Range(name, numbers, place, bounds[2 * place], bounds[2 * place + 1]));
            }
        }
    }

    private static int[] of(int... numbers) {
        return numbers;
    }

    private static void rangesOfAnswers(List<Range> ranges, int n) {
        // An n is 2 to 7 and WHICH is 0 or 1, so no one value is taken by all four settings.
        add(ranges, "set", of(0, 2), 0, 2, 2, 7);
        add(ranges, "set", of(1, 1), 1, 3, 0, 999);
        add(ranges, "set", of(2, 0), 1, 3, 0, 9);
        add(ranges, "set", of(3, 0), 1, 3, 0, 1);
        add(ranges, "answer", of(5, 2, 1, LATE), 0, 11, 0, 6, 0, 2, LEAST, LEAST);
        add(ranges, "read", of(1, 5, LATE), 0, 3, 0, 11, LEAST, LEAST);
        add(ranges, "said", of(5, 2), 0, 11, 0, 6);
        add(ranges, "type", of('a'), 0, 255);
        add(ranges, "needed", of(0, 1, 0), LEAST, LEAST, 1, n - 1, 0, 1);
        add(ranges, "needed", of(n - 1, n - 2, 1), LEAST, LEAST, 0, n - 2, 0, 1);
        add(ranges, "needed", of(0, n - 1, 0), 0, n - 2, LEAST, LEAST, 0, 1);
        add(ranges, "needed", of(n - 1, 0, 1), 1, n - 1, LEAST, LEAST, 0, 1);
    }

    private static void rangesOfRows(List<Range> ranges, int n) {
        add(ranges, "errors", of(5, 2), 0, 11, 0, 127);
        add(ranges, "off", of(0), 0, 1);
        add(ranges, "row", of(0), 0, n - 1);
        add(ranges, "step", of(5, 0), 0, 11, 0, 1);
        add(ranges, "offBy", of(0), 0, 3);
        add(ranges, "fit", of(0, 0), 0, 1, 0, 1);
        add(ranges, "without", of(0, 0), 0, n - 1, 0, 1);
        add(ranges, "worst", of(0), 0, 1);
    }

    private static void rangesOfStates(List<Range> ranges, int n) {
        add(ranges, "states", of(0), -1, MOST);
        add(ranges, "belongs", of(5, 0), 0, 11, 0, 2);
        add(ranges, "next", of(0, 0), 0, 127, 0, 2);
        add(ranges, "deep", of(0), 0, n - 1);
        add(ranges, "sure", of(0, 0, 0), 0, 127, 0, 127, 0, 1);
        add(ranges, "chance", of(5, 2, 2, 3, 0), 0, 11, 0, 127, 0, 16, 0, 16, 0, 1);
        add(ranges, "share", of(5, 0, 2, 3, 0), 0, 11, LEAST, LEAST, 0, 16, 0, 16, 0, 1);
        add(ranges, "likeliest", of(5, 2, 3), 0, 11, 0, 16, 0, 16);
        add(ranges, "lessons", of(1, -1), 0, 4, -1, 0);
        add(ranges, "lessons", of(0, -1), 0, 4, -1, -1);
        add(ranges, "lessons", of(4, 3), 4, 4, -1, 3);
    }

    private static void rangesOfSheets(List<Range> ranges) {
        add(ranges, "sheet", of(3, 1, 9), 0, 3, 0, 2, LEAST, LEAST);
        add(ranges, "lose", of(0), 0, 3);
        add(ranges, "lay", of(3, 1, 0, 1), 0, 3, 0, 2, LEAST, LEAST, LEAST, LEAST);
        add(ranges, "get", of(3, 1, 0), 0, 3, 0, 2, LEAST, LEAST);
        add(ranges, "copy", of(0, 0, 1, 0, 1), 0, 3, LEAST, LEAST, 0, 3, LEAST, LEAST, LEAST, LEAST);
        add(ranges, "write", of(0), 0, 3);
        add(ranges, "count", of(0), 0, 8);
    }

    private static long call(EasyToHard x, String name, int... numbers) throws ReflectiveOperationException {
        Class<?>[] types = new Class<?>[numbers.length];
        Object[] boxed = new Object[numbers.length];
        for (int i = 0; i < numbers.length; i++) {
            types[i] = int.class;
            boxed[i] = numbers[i];
        }
        Method method = EasyToHard.class.getMethod(name, types);
        return ((Number) method.invoke(x, boxed)).longValue();
    }

    private static int[] with(Range range, int number) {
        int[] numbers = range.numbers.clone();
        numbers[range.place] = number;
        return numbers;
    }

    private static long badOf(String name) {
        return List.of("fit", "chance", "share").contains(name) ? Long.MIN_VALUE + 2 : name.equals("get") ? LEAST : BAD;
    }

    private static String words(int scene, String name, int[] numbers) {
        return Scenes.NAMES[scene] + ": " + name + " of " + Arrays.toString(numbers);
    }

    private static void taken(int scene, Range range) throws ReflectiveOperationException {
        C.says(0, "BAD -2 (a number not as told, no such thing),");
        for (int number : new int[] {range.least, range.most}) {
            int[] numbers = with(range, number);
            EasyToHard x = Scenes.make(scene);
            // What get() answers when it refuses may be an item or a finding too: count() 8 tells.
            if (!range.name.equals("get")) {
                long got = call(x, range.name, numbers);
                C.holds(words(scene, range.name, numbers) + " is not BAD, but " + got, got != badOf(range.name));
            }
        }
    }

    private static void refused(int scene, Range range, long[] untouched) throws ReflectiveOperationException {
        List<Integer> wrong = new ArrayList<>(List.of(range.least - 1, LEAST));
        if (range.most != MOST) {
            wrong.addAll(List.of(range.most + 1, MOST));
        }
        for (int number : wrong) {
            changesNothing(scene, badOf(range.name), 0, untouched, range.name, with(range, number));
        }
    }

    /** The call is refused so; then count() 8 is the finding (0: as it was), and nothing else has changed. */
    private static void changesNothing(int scene, long want, int finding, long[] untouched, String name, int... numbers)
            throws ReflectiveOperationException {
        EasyToHard x = Scenes.make(scene);
        int before = x.count(8);
        String call = words(scene, name, numbers);
        C.says(0, "Refusals, the first that fits, in the order told at each act:");
        C.due(call, call(x, name, numbers), want);
        C.says(0, "They change nothing (FINDINGS but count() 8).");
        C.due("count(8) behind " + call, x.count(8), finding == 0 ? before : finding);
        C.holds("all is as it was behind " + call, Arrays.equals(Scenes.seen(x), untouched));
    }

    private static void refuse(int scene, long want, String name, int... numbers) throws ReflectiveOperationException {
        int finding = want <= NULL && want >= SIZE ? (int) (-10 - want) : 0;
        changesNothing(scene, want, finding, Scenes.seen(Scenes.make(scene)), name, numbers);
    }

    private static void refusalsOfANewObject() throws ReflectiveOperationException {
        int s = Scenes.NEW;
        refuse(s, BAD, "answer", 0, 0, 0, -1);
        refuse(s, BAD, "answer", 0, 0, 0, 1000);
        refuse(s, BAD, "read", 0, 0, -1);
        refuse(s, BAD, "read", 0, 0, 1000);
        refuse(s, NULL, "read", 0, 0, 0);
        refuse(s, BAD, "needed", 0, 0, 0);
        refuse(s, NULL, "offBy", 0);
        refuse(s, Long.MIN_VALUE + 3, "fit", 0, 0);
        refuse(s, Long.MIN_VALUE + 3, "fit", 1, 1);
        refuse(s, NOT, "sure", 1, 1, 0);
        refuse(s, FULL, "sure", 0, 0, 1);
        refuse(s, Check.BAD_LONG, "share", 0, -1, 0, 0, 0);
        refuse(s, Check.BAD_LONG, "share", 0, 128, 0, 0, 0);
        refuse(s, BAD, "sheet", 0, 0, 61);
        refuse(s, SIZE, "sheet", 0, 0, -1);
        refuse(s, NULL, "lose", 3);
        refuse(s, NULL, "lay", 0, 0, 0, 1);
        refuse(s, NULL, "copy", 0, 0, 1, 0, 0);
        refuse(s, NULL, "write", 2);
        changesNothing(s, LEAST, 1, Scenes.seen(Scenes.make(s)), "get", 0, 0, 0);
    }

    private static void refusalsInBetween() throws ReflectiveOperationException {
        int s = Scenes.SOME;
        refuse(s, BAD, "answer", 0, 0, 0, LATE - 1);
        refuse(s, BAD, "read", 1, 0, LATE - 1);
        refuse(s, NULL, "read", 3, 0, LATE);
        refuse(s, BAD, "needed", 4, 0, 0);
        refuse(s, NOT, "offBy", 1);
        refuse(s, NULL, "offBy", 3);
        refuse(s, NOT, "sure", 2, 1, 0);
        refuse(s, Check.BAD_LONG, "share", 0, 2, 2, 3, 0);
        refuse(s, Long.MIN_VALUE + 3, "share", 2, 0, 0, 0, 0);
        refuse(s, BAD, "sheet", 0, 0, 61);
        refuse(s, SIZE, "sheet", 0, 1, -1);
        refuse(s, SIZE, "sheet", 3, 1, LEAST);
        refuse(s, CAST, "lay", 0, 2, 0, 1);
        refuse(s, INDEX, "lay", 0, 0, 5, 1);
        refuse(s, INDEX, "lay", 2, 2, -1, 1);
        refuse(s, STORE, "copy", 0, 0, 1, 0, 1);
        refuse(s, INDEX, "copy", 0, 0, 0, 1, 5);
        refuse(s, INDEX, "copy", 0, 3, 0, 0, 3);
        refuse(s, NULL, "copy", 0, 0, 3, 0, 1);
        refuse(s, NULL, "copy", 3, 0, 0, 0, 1);
        refuse(s, NULL, "write", 3);
        refuse(s, NULL, "lose", 3);
        long[] untouched = Scenes.seen(Scenes.make(s));
        changesNothing(s, LEAST, 1, untouched, "get", 3, 0, 0);
        changesNothing(s, LEAST, 2, untouched, "get", 0, 0, 5);
        changesNothing(s, LEAST, 3, untouched, "get", 0, 2, 0);
    }

    private static void refusalsOfAFullObject() throws ReflectiveOperationException {
        int s = Scenes.ALL;
        refuse(s, FULL, "answer", 0, 0, 0, LATE);
        refuse(s, FULL, "answer", 11, 6, 2, 999);
        refuse(s, BAD, "answer", 0, 0, 0, LATE - 1);
        refuse(s, FULL, "type", 'a');
        refuse(s, FULL, "type", ';');
        refuse(s, BAD, "sheet", 3, 2, 61);
        refuse(s, SIZE, "sheet", 3, 2, -1);
        refuse(s, INDEX, "lay", 3, 0, 60, 9);
        refuse(s, INDEX, "copy", 0, 0, 3, 1, 60);
        refuse(s, NOT, "offBy", 0);
        C.says(4, "as long as each may be,");
        changesNothing(s, 0, 0, Scenes.seen(Scenes.make(s)), "read", 0, 0, LATE);
    }

    private static void refusalsOfLongs() {
        C.says(0, "Where the answer is a long, a refusal -x is the least long and x more.");
        EasyToHard x = new EasyToHard();
        C.due("BAD", x.fit(2, 0), -9223372036854775806L);
        C.due("NOT", x.fit(0, 0), -9223372036854775805L);
        C.due("BAD", x.chance(0, 0, 17, 0, 0), -9223372036854775806L);
        C.due("BAD", x.share(0, 0, 0, 17, 0), -9223372036854775806L);
        x.answer(0, 0, 1, 0);
        C.due("NOT", x.share(0, 0, 16, 0, 0), -9223372036854775805L);
    }

    private static void inTheirOrder() {
        C.says(0, "NULL, NOT -3 (as told), FULL -4, other FINDINGS.");
        EasyToHard x = Scenes.make(Scenes.ALL);
        C.due("BAD ahead of FULL", x.answer(0, 0, 3, LATE), BAD);
        C.due("a time too early ahead of FULL", x.answer(0, 0, 0, LATE - 1), BAD);
        C.due("FULL", x.answer(0, 0, 0, LATE), FULL);
        C.due("BAD ahead of FULL in needs", x.type(256), BAD);
        EasyToHard y = Scenes.make(Scenes.SOME);
        C.due("BAD ahead of NULL", y.read(3, 0, LATE - 1), BAD);
        C.due("NULL ahead of NOT", y.offBy(3), NULL);
        C.due("NULL ahead of CAST and INDEX", y.lay(3, 2, -1, 0), NULL);
        C.due("CAST ahead of INDEX", y.lay(0, 2, -1, 0), CAST);
        C.due("BAD ahead of NULL in lay", y.lay(3, 3, -1, 0), BAD);
        C.due("BAD ahead of NULL in copy", y.copy(3, 0, 4, 0, 1), BAD);
        C.due("NULL ahead of STORE and INDEX", y.copy(0, -1, 3, 0, 1), NULL);
        C.due("STORE ahead of INDEX", y.copy(0, -1, 1, 0, 1), STORE);
        C.due("BAD ahead of SIZE", y.sheet(0, 3, -1), BAD);
        C.due("BAD ahead of NOT in sure", y.sure(1, 1, 2), BAD);
        C.due("BAD ahead of NOT in share", y.share(2, 2, 0, 0, 0), Check.BAD_LONG);
        C.due("NOT in share", y.share(2, 0, 0, 0, 0), Check.NOT_LONG);
        C.due("BAD ahead of NOT in fit", new EasyToHard().fit(0, 2), Check.BAD_LONG);
    }
}
