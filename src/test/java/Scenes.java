/** Objects in several states, in which calls are tried, and all that can be seen of an object. */
final class Scenes {
    static final int NEW = 0, SOME = 1, ALL = 2, NUMBER = 3;
    static final String[] NAMES = {"new", "with some of all", "full"};
    /** The time of the last telling in the second and third. */
    static final int LAST_TIME = 12;

    private Scenes() { }

    static EasyToHard make(int scene) {
        EasyToHard x = new EasyToHard();
        if (scene == SOME) {
            some(x);
        } else if (scene == ALL) {
            full(x);
        }
        return x;
    }

    /** Sheet 0 has bytes that are a row, 1 shorts that are none, 2 one int; 3 is lost. A CAST was found. */
    private static void some(EasyToHard x) {
        x.set(0, 4);
        Check.tell(x, 3, "1100", "1011", "0-10", "--11", "1000");
        x.answer(0, 2, 1, 8);
        x.answer(1, 6, 1, LAST_TIME);
        x.set(1, 8);
        x.set(2, 1);
        Check.type(x, "a<b;a<c");
        Check.fill(x, 0, 0, 3, 1, 0, 2, 77);
        Check.fill(x, 1, 1, 1, 0, 300);
        Check.fill(x, 2, 2, -70000);
        x.get(0, 1, 0);
    }

    /** As many tellings, bytes and items as there may be. */
    private static void full(EasyToHard x) {
        x.set(0, 7);
        for (int s = 0; s < 4; s++) {
            x.sheet(s, s % 3, 60);
            x.lay(s, s % 3, s, 1);
            x.lay(s, s % 3, 59, 5 + s);
        }
        for (int i = 0; i < 22; i++) {
            x.read(i % 4, i % 12, i / 2);
        }
        for (int i = 154; i < 160; i++) {
            x.answer(i % 12, i % 7, i % 2, LAST_TIME);
        }
        Check.type(x, "a<b;".repeat(14) + "c<d;");
        x.set(2, 9);
        x.set(3, 1);
    }

    /** What is seen of an object, but for count() 8; the object is used up by it. */
    static long[] seen(EasyToHard x) {
        Seen seen = new Seen();
        for (int what = 0; what <= 7; what++) {
            seen.add(x.count(what));
        }
        seen.add(x.digest());
        for (int i = 0; i < 84; i++) {
            seen.add(x.said(i / 7, i % 7));
        }
        needs(x, seen);
        sheets(x, seen);
        seen.add(x.set(1, 999));
        seen.add(x.set(3, 0));
        // The first time at which a telling is not BAD shows when the last one was.
        for (int time = 0; time <= LAST_TIME; time++) {
            int told = x.answer(11, 6, 2, time);
            seen.add(told);
            if (told != EasyToHard.BAD) {
                break;
            }
        }
        seen.add(x.wipe());
        return seen.all();
    }

    private static void needs(EasyToHard x, Seen seen) {
        int n = x.count(0);
        for (int a = 0; a < n; a++) {
            for (int b = 0; b < n; b++) {
                if (a != b) {
                    seen.add(x.needed(a, b, 0));
                    seen.add(x.needed(a, b, 1));
                }
            }
        }
    }

    private static void sheets(EasyToHard x, Seen seen) {
        int[] places = {0, 1, 2, 3, 4, 5, 59};
        for (int s = 0; s < 4; s++) {
            for (int form = 0; form < 3; form++) {
                for (int i : places) {
                    seen.add(x.get(s, form, i));
                }
            }
            seen.add(x.lose(s));
        }
    }

    /** The numbers that were seen, one behind the other. */
    private static final class Seen {
        private final long[] numbers = new long[512];
        private int size;

        void add(long number) {
            numbers[size] = number;
            size++;
        }

        long[] all() {
            return java.util.Arrays.copyOf(numbers, size);
        }
    }
}
