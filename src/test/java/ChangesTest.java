import java.util.ArrayList;
import java.util.Arrays;
import java.util.List;
import java.util.function.ToLongFunction;

/** What is asked changes nothing, whenever it is asked; and what changes shows at once in all that is asked. */
public final class ChangesTest {
    private static final Check C = new Check();

    public static void main(String[] args) {
        shownAtOnce();
        askedInVain();
        C.finish();
    }

    /** Calls that change an object, so that each kind comes behind the others. */
    private static List<ToLongFunction<EasyToHard>> changes() {
        List<ToLongFunction<EasyToHard>> all = new ArrayList<>();
        String text = "a<b;c<d;b<c;a<e;d<f;x";
        for (int round = 0; round < text.length(); round++) {
            int r = round;
            all.add(x -> x.type(text.charAt(r)));
            all.add(x -> x.answer(r % 12, r % 7, r % 2, r));
            all.add(x -> x.answer((r + 5) % 12, (r + 3) % 7, r * r % 3, r));
            all.add(x -> x.sheet(r % 4, r % 3, 7 + r % 2));
            all.add(x -> x.lay(r % 4, r % 3, r % 7, 1 + r % 2));
            all.add(x -> x.read(r % 4, r * 5 % 12, r));
            if (r % 3 == 0) {
                all.add(x -> x.set(0, 2 + (r * 5 + 3) % 6));
                all.add(x -> x.set(1, r % 2 == 0 ? 999 : r - 2));
            }
            all.add(x -> x.set(2 + r % 2, r / 2 % 2));
            if (r % 9 == 8) {
                all.add(EasyToHard::wipe);
            }
        }
        return all;
    }

    private static void shownAtOnce() {
        List<ToLongFunction<EasyToHard>> changes = changes();
        EasyToHard x = new EasyToHard();
        for (int number = 1; number <= changes.size(); number++) {
            EasyToHard fresh = new EasyToHard();
            for (ToLongFunction<EasyToHard> change : changes.subList(0, number)) {
                change.applyAsLong(fresh);
            }
            changes.get(number - 1).applyAsLong(x);
            C.due("digest behind change " + number, x.digest(), fresh.digest());
        }
        C.holds("at most 512 calls: " + 2 * changes.size(), 2 * changes.size() <= 512);
    }

    /** Every call that only asks, with numbers that are taken. */
    private static List<ToLongFunction<EasyToHard>> questions() {
        List<ToLongFunction<EasyToHard>> all = new ArrayList<>();
        all.add(x -> x.said(0, 0));
        all.add(EasyToHard::fault);
        all.add(x -> x.needed(0, 1, 0) + x.needed(1, 0, 1));
        all.add(x -> x.errors(0, 127));
        all.add(x -> x.off(0) + x.off(1));
        all.add(x -> x.row(0));
        all.add(x -> x.step(0, 0) + x.step(0, 1));
        all.add(x -> x.offBy(0));
        all.add(x -> x.fit(0, 0) + x.fit(1, 1));
        all.add(EasyToHard::odd);
        all.add(x -> x.without(1, 0) + x.without(0, 1));
        all.add(x -> x.worst(0) + x.worst(1));
        all.add(x -> x.states(-1) + x.states(0) + x.states(999));
        all.add(x -> x.belongs(0, 0) + x.belongs(1, 1) + x.belongs(2, 2));
        all.add(x -> x.next(1, 0) + x.next(1, 1) + x.next(1, 2));
        all.add(EasyToHard::paths);
        all.add(x -> x.deep(1));
        all.add(x -> x.sure(3, 4, 0) + x.sure(3, 4, 1));
        all.add(x -> x.chance(0, 3, 2, 3, 0));
        all.add(x -> x.share(0, 0, 2, 3, 1));
        all.add(x -> x.likeliest(0, 2, 3));
        all.add(x -> x.lessons(4, -1) + x.lessons(3, 0));
        all.add(x -> x.get(0, 0, 0));
        all.add(x -> x.count(2) + x.count(8));
        all.add(EasyToHard::digest);
        return all;
    }

    private static void askedInVain() {
        for (int scene = 0; scene < Scenes.NUMBER; scene++) {
            long[] untouched = Scenes.seen(Scenes.make(scene));
            int number = 0;
            for (ToLongFunction<EasyToHard> question : questions()) {
                EasyToHard x = Scenes.make(scene);
                long first = question.applyAsLong(x);
                C.due(Scenes.NAMES[scene] + ": question " + number + " again", question.applyAsLong(x), first);
                C.holds("and nothing is changed by it", Arrays.equals(Scenes.seen(x), untouched));
                number++;
            }
        }
    }
}
