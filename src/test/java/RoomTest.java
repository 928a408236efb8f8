import java.lang.management.ManagementFactory;

/** All calls of a run live in one room: a call makes no objects, and a new object is small. */
public final class RoomTest {
    private static final Check C = new Check();
    private static final com.sun.management.ThreadMXBean BEAN =
            (com.sun.management.ThreadMXBean) ManagementFactory.getThreadMXBean();

    public static void main(String[] args) {
        run(new EasyToHard());
        allocated();
        long before = allocated();
        EasyToHard x = new EasyToHard();
        long made = allocated() - before;
        C.holds("a new object takes " + made + " bytes, at most 10,000", made <= 10_000);
        before = allocated();
        run(x);
        long used = allocated() - before;
        C.holds("the calls take " + used + " bytes, at most 5,000", used <= 5_000);
        C.finish();
    }

    private static long allocated() {
        return BEAN.getThreadAllocatedBytes(Thread.currentThread().getId());
    }

    private static void run(EasyToHard x) {
        x.set(0, 7);
        for (int i = 0; i < 84; i++) {
            x.answer(i / 7, i % 7, i * i % 5 % 2, 0);
        }
        for (int i = 0; i < 20; i++) {
            x.type("a<b;".charAt(i % 4));
            x.answer(i % 12, i % 7, i % 2, i);
            x.set(3, i % 2);
            x.sheet(i % 4, i % 3, 60);
            x.sheet((i + 1) % 4, i % 3, 60);
            x.lay(i % 4, i % 3, 0, i);
            x.copy(i % 4, 0, (i + 1) % 4, 5, 20);
            x.write(i % 4);
            x.offBy(i % 4);
            x.read(i % 4, 0, i);
            x.lessons(4, 0);
            x.sure(i, 64, 1);
            x.share(0, 127, 2, 3, 0);
            x.fit(0, 0);
            x.wipe();
            x.digest();
        }
    }
}
