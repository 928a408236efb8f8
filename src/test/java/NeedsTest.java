/** Promises 6 to 9: type, wipe, fault, needed; and the parts of needs in count. */
public final class NeedsTest {
    private static final Check C = new Check();

    public static void main(String[] args) {
        typing();
        faults();
        circles();
        told();
        beyondN();
        found();
        foundOfThoseWhoAnsweredBoth();
        wrongNeeded();
        C.finish();
    }

    private static void typing() {
        EasyToHard x = new EasyToHard();
        C.due("type(0)", x.type(0), 1);
        C.due("type(255)", x.type(255), 2);
        C.due("type(-1)", x.type(-1), EasyToHard.BAD);
        C.due("type(256)", x.type(256), EasyToHard.BAD);
        C.due("two bytes", x.count(5), 2);
        C.due("wipe", x.wipe(), 2);
        C.due("wipe again", x.wipe(), 0);
        C.due("empty is well", x.fault(), EasyToHard.NONE);
        for (int i = 1; i <= 60; i++) {
            C.due("byte " + i, x.type("a<b;".charAt((i - 1) % 4)), i);
        }
        C.due("61 bytes", x.type('a'), EasyToHard.FULL);
        C.due("wrong goes ahead of full", x.type(256), EasyToHard.BAD);
        C.due("a part is missing at the end", x.fault(), 60);
        C.due("wipe 60", x.wipe(), 60);
        C.due("well again", x.fault(), EasyToHard.NONE);
        Check.type(x, "a<b;a<b;a<b;a<b;a<b;a<b;a<b;a<b;a<b;a<b;a<b;a<b;a<b;a<b;a<b");
        C.due("15 parts in 59 bytes", x.count(6), 15);
        C.due("15 parts are well", x.fault(), EasyToHard.NONE);
    }

    private static void fault(String text, int place, int parts) {
        EasyToHard x = new EasyToHard();
        Check.type(x, text);
        C.due("fault of " + text, x.fault(), place);
        C.due("parts of " + text, x.count(6), parts);
    }

    private static void faults() {
        fault("a", 1, 0);
        fault("a<", 2, 0);
        fault("a<b", -1, 1);
        fault("a<b;", 4, 0);
        fault(";", 0, 0);
        fault("a<b;;", 4, 0);
        fault("a<b,b<c", 3, 0);
        fault("a<b b<c", 3, 0);
        fault("h<a", 0, 0);
        fault("a<h", 2, 0);
        fault("`<a", 0, 0);
        fault("A<b", 0, 0);
        fault("g<a", -1, 1);
        fault("a<g", -1, 1);
        fault("a>b", 1, 0);
        fault("a<b;c", 5, 0);
        fault("a<b;c<", 6, 0);
        fault("a<b;c<d", -1, 2);
        fault("a<bc", 3, 0);
        fault("a<b;a<b", -1, 2);
    }

    private static void circles() {
        fault("a<a", 2, 0);
        fault("a<b;b<a", 6, 0);
        fault("a<b;b<c;c<a", 10, 0);
        fault("b<c;c<d;a<b;d<a", 14, 0);
        fault("c<d;a<b;b<c;d<a;x", 14, 0);
        fault("a<b;c<d;b<c;d<a", 14, 0);
        fault("a<b;a<c;b<d;c<d;a<d", -1, 5);
        fault("f<g;g<f", 6, 0);
        fault("b<a;a<b", 6, 0);
        fault("b<a;c<b;a<c", 10, 0);
        fault("g<a;a<c;c<g", 10, 0);
        fault("a<g;g<b;b<a", 10, 0);
    }

    private static void told() {
        EasyToHard x = new EasyToHard();
        Check.type(x, "a<b;b<c");
        C.due("a for b", x.needed(0, 1, 0), 1);
        C.due("b for c", x.needed(1, 2, 0), 1);
        C.due("only straight", x.needed(0, 2, 0), 0);
        C.due("not back", x.needed(1, 0, 0), 0);
        C.due("states of a chain of three, and two more", x.states(-1), 16);
        x.type(';');
        C.due("none with a fault", x.needed(0, 1, 0), 0);
        C.due("all sets are states then", x.states(-1), 32);
        Check.type(x, "a<d");
        C.due("told again", x.needed(0, 1, 0), 1);
        C.due("a for d", x.needed(0, 3, 0), 1);
        x.wipe();
        C.due("none when wiped", x.needed(0, 1, 0), 0);
        x.type('a');
        C.due("wiped bytes do not go on", x.fault(), 1);
        x.type('<');
        C.due("nor a wiped letter", x.fault(), 2);
    }

    private static void beyondN() {
        EasyToHard x = new EasyToHard();
        Check.type(x, "a<c;c<b");
        x.set(0, 2);
        C.due("not by way of one beyond n", x.states(-1), 4);
        C.due("parts all the same", x.count(6), 2);
        C.due("a letter beyond n is no fault", x.fault(), EasyToHard.NONE);
        C.due("beyond n", x.needed(0, 2, 0), EasyToHard.BAD);
        x.set(0, 3);
        C.due("counts with n of 3", x.needed(0, 2, 0), 1);
        C.due("a chain", x.states(-1), 4);
    }

    private static void found() {
        EasyToHard x = new EasyToHard();
        Check.tell(x, 0, "10", "10", "01", "11", "00");
        C.due("one against, two in favour", x.needed(0, 1, 1), 0);
        x.set(2, 1);
        C.due("with slack", x.needed(0, 1, 1), 1);
        C.due("not back, for it is not fewer", x.needed(1, 0, 1), 0);
        Check.tell(x, 1, "", "", "", "", "", "01");
        C.due("two against are more than slack", x.needed(0, 1, 1), 0);
        x.set(2, 9);
        C.due("two and two: not fewer", x.needed(0, 1, 1), 0);
        C.due("nor back", x.needed(1, 0, 1), 0);
        C.due("none answered c", x.needed(2, 0, 1), 0);
        C.due("told are none", x.needed(0, 1, 0), 0);
    }

    private static void foundOfThoseWhoAnsweredBoth() {
        EasyToHard x = new EasyToHard();
        Check.tell(x, 0, "1-", "-0", "1-", "-0");
        C.due("nobody answered both", x.needed(0, 1, 1), 0);
        x.answer(0, 1, 0, 1);
        C.due("one did", x.needed(0, 1, 1), 1);
        x.set(1, 0);
        C.due("not as of 0", x.needed(0, 1, 1), 0);
        x.set(1, 1);
        x.answer(0, 0, 2, 1);
        C.due("none for an answer", x.needed(0, 1, 1), 0);
    }

    private static void wrongNeeded() {
        EasyToHard x = new EasyToHard();
        int[][] wrong = {{-1, 0, 0}, {0, -1, 0}, {5, 0, 0}, {0, 5, 1}, {1, 1, 0}, {1, 1, 1}, {0, 1, -1}, {0, 1, 2}};
        for (int[] w : wrong) {
            C.due("needed of " + java.util.Arrays.toString(w), x.needed(w[0], w[1], w[2]), EasyToHard.BAD);
        }
        x.set(0, 7);
        C.due("needed(6, 5, 0)", x.needed(6, 5, 0), 0);
    }
}
