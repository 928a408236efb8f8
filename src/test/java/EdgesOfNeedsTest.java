/** The document's sentences on needs, told and found, at their edges; promises 6 to 9. */
public final class EdgesOfNeedsTest {
    private static final Check C = new Check();
    private static final int LEAST = Integer.MIN_VALUE, MOST = Integer.MAX_VALUE, NONE = EasyToHard.NONE;

    public static void main(String[] args) {
        sixtyBytes();
        signBetweenParts();
        signsOfAPart();
        firstForSecond();
        firstFault();
        endsTooSoon();
        emptyIsWell();
        straightCircle();
        circleByOthers();
        faultBetweenCircles();
        noneWithFault();
        lettersOfNOn();
        foundWithinSlack();
        foundFewerThan();
        foundOfBoth();
        typing();
        wiping();
        fault();
        needed();
        wrongNeeded();
        C.finish();
    }

    private static void faultOf(String text, int want) {
        EasyToHard x = Check.typed(5, text);
        C.due("fault of " + text, x.fault(), want);
        C.due("bytes of " + text, x.count(5), text.length());
    }

    private static void sixtyBytes() {
        C.says(0, "NEEDS are a text of up to 60 bytes:");
        EasyToHard x = Check.typed(5, "a<b;".repeat(14) + "b<c");
        C.due("59 bytes are well", x.fault(), NONE);
        C.due("of 15 parts", x.count(6), 15);
        C.due("the last part is told", x.needed(1, 2, 0), 1);
        C.due("the 60th byte", x.type(';'), 60);
        C.due("does not end a text", x.fault(), 60);
        C.due("one more", x.type('a'), EasyToHard.FULL);
        C.due("changes nothing", x.fault(), 60);
        C.due("60 bytes", x.count(5), 60);
        C.due("nor does a second", x.type('a'), EasyToHard.FULL);
    }

    private static void signBetweenParts() {
        C.says(0, "parts with ; between them:");
        for (int b = 0; b < 256; b++) {
            EasyToHard x = Check.typed(5, "a<b");
            x.type(b);
            C.due("byte " + b + " behind a part", x.fault(), b == ';' ? 4 : 3);
            Check.type(x, "c<d");
            C.due("and a part behind it", x.fault(), b == ';' ? NONE : 3);
            C.due("told", x.needed(2, 3, 0), b == ';' ? 1 : 0);
        }
        faultOf(";a<b", 0);
        faultOf("a<b;", 4);
        faultOf("a<b;;c<d", 4);
        faultOf("a<bc<d", 3);
    }

    private static void signsOfAPart() {
        C.says(0, "a letter, <, a letter (a to g):");
        for (int b = 0; b < 256; b++) {
            boolean isLetter = b >= 'a' && b <= 'g';
            char sign = (char) b;
            faultOf(sign + "<" + (b == 'a' ? "b" : "a"), isLetter ? NONE : 0);
            faultOf("a" + sign + "b", b == '<' ? NONE : 1);
            faultOf("a<" + sign, isLetter && b != 'a' ? NONE : 2);
            faultOf("g<" + sign, isLetter && b != 'g' ? NONE : 2);
            faultOf("c<d;" + sign + "<" + (b == 'a' ? "b" : "a"), isLetter ? NONE : 4);
            faultOf("c<d;a" + sign + "b", b == '<' ? NONE : 5);
        }
    }

    private static void firstForSecond() {
        C.says(0, "the first one is NEEDED for the second.");
        for (int a = 0; a < 7; a++) {
            int b = (a + 3) % 7;
            EasyToHard x = Check.typed(7, (char) ('a' + a) + "<" + (char) ('a' + b));
            C.due(a + " for " + b, x.needed(a, b, 0), 1);
            C.due(b + " for " + a, x.needed(b, a, 0), 0);
            C.due("with it", x.next(1 << a | 1 << b, 2), 1);
            C.due("without it", x.next(1 << b, 2), 0);
            C.due("it alone", x.next(1 << a, 2), 1);
        }
    }

    private static void firstFault() {
        C.says(0, "The FAULT is the place of the first byte with which it cannot go on");
        faultOf("x", 0);
        faultOf("xyz", 0);
        faultOf("a<x;x", 2);
        faultOf("a<b;c<d;e>f;x", 9);
        faultOf("a<b c<d x", 3);
        EasyToHard x = Check.typed(5, "a>b;");
        Check.type(x, "c<d;e<f");
        C.due("a fault stays, whatever comes behind", x.fault(), 1);
    }

    private static void endsTooSoon() {
        C.says(0, "with which it cannot go on");
        String text = "a<b;c<d;a<c";
        for (int length = 1; length <= text.length(); length++) {
            faultOf(text.substring(0, length), length % 4 == 3 ? NONE : length);
        }
    }

    private static void emptyIsWell() {
        C.says(0, "(an empty text is well)");
        EasyToHard x = new EasyToHard();
        C.due("at first", x.fault(), NONE);
        x.type('x');
        C.due("a wrong byte", x.fault(), 0);
        x.wipe();
        C.due("wiped", x.fault(), NONE);
    }

    private static void straightCircle() {
        C.says(0, "of the second letter, if by that a QUESTION would be NEEDED for itself, straight,");
        for (char letter = 'a'; letter <= 'g'; letter++) {
            faultOf(letter + "<" + letter, 2);
            faultOf("a<b;" + letter + "<" + letter, 6);
        }
    }

    private static void circleByOthers() {
        C.says(0, "or by way of others told ahead.");
        String[] chain = {"a<b", "b<c", "c<d", "d<e", "e<f", "f<g"};
        StringBuilder text = new StringBuilder();
        for (int i = 0; i < chain.length; i++) {
            text.append(chain[i]).append(';');
            faultOf(text + chain[i].substring(2) + "<a", 4 * i + 6);
            faultOf(text + "a<" + chain[i].substring(2), NONE);
        }
        StringBuilder back = new StringBuilder();
        for (int i = chain.length - 1; i > 0; i--) {
            back.append(chain[i]).append(';');
        }
        faultOf(back + "a<b;g<a", 26);
        faultOf(back + "g<a;a<b", 26);
        faultOf(back + "a<b;a<g", NONE);
    }

    private static void faultBetweenCircles() {
        C.says(0, "or by way of others told ahead.");
        faultOf("a<b;b<a;x", 6);
        faultOf("a<b;x;b<a", 4);
        faultOf("a<b;b<a;b<c;c<b", 6);
        faultOf("b<a;b<a;a<b", 10);
        faultOf("a<c;b<c;c<d;d<b", 14);
        faultOf("a<c;b<c;a<d;b<d;c<e;d<e", NONE);
    }

    private static void noneWithFault() {
        C.says(0, "With a FAULT none are told.");
        for (String behind : new String[] {";", "x", ";x", ";b<a", ";c", ";c<", ";c<c"}) {
            EasyToHard x = Check.typed(3, "a<b" + behind);
            C.due("needed with " + behind, x.needed(0, 1, 0), 0);
            C.due("states with " + behind, x.states(-1), 8);
            C.due("b with " + behind, x.next(2, 2), 1);
            C.due("paths with " + behind, x.paths(), 6);
            C.due("deep with " + behind, x.deep(1), 1);
        }
        EasyToHard x = Check.typed(3, "a<b;");
        C.due("not yet", x.states(-1), 8);
        Check.type(x, "b<c");
        C.due("told when it is well again", x.states(-1), 4);
    }

    private static void lettersOfNOn() {
        C.says(0, "Those with letters of n on do not count.");
        for (int n = 2; n <= 6; n++) {
            char beyond = (char) ('a' + n);
            EasyToHard x = Check.typed(n, "a<" + beyond + ";" + beyond + "<b");
            C.due("no fault, n of " + n, x.fault(), NONE);
            C.due("all sets, n of " + n, x.states(-1), 1 << n);
            C.due("b, n of " + n, x.deep(1), 1);
            C.due("a for b, n of " + n, x.needed(0, 1, 0), 0);
            x.set(0, n + 1);
            C.due("they count with one more", x.deep(1), 3);
            C.due("for it", x.needed(0, n, 0), 1);
            C.due("it for b", x.needed(n, 1, 0), 1);
            EasyToHard y = Check.typed(n, "a<" + (char) (beyond - 1));
            C.due("the last letter below n counts", y.needed(0, n - 1, 0), 1);
            C.due("in states", y.states(-1), (1 << n) * 3 / 4);
        }
        faultOf("a<h", 2);
    }

    /** So many pupils have b and not a, so many a and not b; to neither others of them say a thing. */
    private static EasyToHard against(int bNotA, int aNotB) {
        EasyToHard x = new EasyToHard();
        for (int pupil = 0; pupil < bNotA + aNotB; pupil++) {
            x.answer(pupil, 0, pupil < bNotA ? 0 : 1, 0);
            x.answer(pupil, 1, pupil < bNotA ? 1 : 0, 0);
        }
        return x;
    }

    private static void foundWithinSlack() {
        C.says(0, "if of PUPILS who answered both no more than SLACK have b and not a,");
        for (int number = 0; number <= 5; number++) {
            EasyToHard x = against(number, number + 1);
            for (int slack = 0; slack <= 9; slack++) {
                x.set(2, slack);
                C.due(number + " against, slack " + slack, x.needed(0, 1, 1), number <= slack ? 1 : 0);
                C.due("not back, slack " + slack, x.needed(1, 0, 1), 0);
            }
        }
    }

    private static void foundFewerThan() {
        C.says(0, "and fewer than have a and not b.");
        for (int number = 0; number <= 6; number++) {
            for (int other = 0; other + number <= 12; other++) {
                EasyToHard x = against(number, other);
                x.set(2, 9);
                C.due(number + " against " + other, x.needed(0, 1, 1), number < other ? 1 : 0);
            }
        }
        C.due("nobody answered", new EasyToHard().needed(0, 1, 1), 0);
    }

    private static void foundOfBoth() {
        C.says(0, "FOUND: a is NEEDED for b (not one), if of PUPILS who answered both");
        EasyToHard x = new EasyToHard();
        Check.tell(x, 0, "1-", "-0", "0-", "-1", "11", "00");
        C.due("nobody has a and not b", x.needed(0, 1, 1), 0);
        x.answer(0, 1, 0, 1);
        C.due("one has", x.needed(0, 1, 1), 1);
        x.answer(3, 0, 2, 1);
        C.due("none is no answer", x.needed(0, 1, 1), 1);
        x.answer(3, 0, 0, 1);
        C.due("one has b and not a", x.needed(0, 1, 1), 0);
        x.answer(1, 0, 1, 2);
        C.due("slack is 0", x.needed(0, 1, 1), 0);
        x.set(2, 1);
        C.due("slack is 1", x.needed(0, 1, 1), 1);
        x.answer(1, 1, 2, 2);
        C.due("told none anew", x.needed(0, 1, 1), 0);
        C.bad("one for itself", x.needed(0, 0, 1));
        x.set(1, 0);
        C.due("as of 0 nobody has a and not b", x.needed(0, 1, 1), 0);
        x.set(1, 1);
        x.set(2, 0);
        C.due("as of 1 one has b and not a", x.needed(0, 1, 1), 0);
        x.answer(3, 0, 1, 2);
        x.set(1, 2);
        C.due("as of 2 nobody has", x.needed(0, 1, 1), 1);
        x.set(3, 1);
        C.due("nor in states", x.next(1, 2), 1);
    }

    private static void typing() {
        EasyToHard x = new EasyToHard();
        C.says(6, "A byte (0 to 255) comes behind NEEDS: how many.");
        C.due("the least byte", x.type(0), 1);
        C.due("the greatest byte", x.type(255), 2);
        C.due("behind the others", x.fault(), 0);
        C.says(6, "BAD;");
        for (int b : new int[] {-1, 256, 'a' + 256, LEAST, MOST}) {
            C.bad("type(" + b + ")", x.type(b));
        }
        C.due("two bytes", x.count(5), 2);
        C.says(6, "FULL.");
        for (int i = 3; i <= 60; i++) {
            C.due("byte " + i, x.type('a'), i);
        }
        C.due("one more", x.type('a'), EasyToHard.FULL);
        C.bad("a wrong one goes ahead of that", x.type(256));
        C.bad("and below 0", x.type(-1));
        C.due("60 bytes", x.count(5), 60);
    }

    private static void wiping() {
        C.says(7, "NEEDS are empty: how many bytes they had.");
        EasyToHard x = Check.typed(3, "a<b;b<c");
        C.due("seven", x.wipe(), 7);
        C.due("none then", x.wipe(), 0);
        C.due("no bytes", x.count(5), 0);
        C.due("no parts", x.count(6), 0);
        C.due("no needs", x.needed(0, 1, 0), 0);
        C.due("all sets", x.states(-1), 8);
        Check.type(x, "b<a");
        C.due("needs anew", x.needed(1, 0, 0), 1);
        C.due("not the old ones", x.needed(0, 1, 0), 0);
        C.due("three", x.wipe(), 3);
        Check.type(x, "a".repeat(61));
        C.due("sixty", x.wipe(), 60);
        C.due("there is room again", x.type('a'), 1);
        EasyToHard y = Check.typed(3, "a<b;b<c");
        C.due("states with needs", y.states(-1), 4);
        C.due("wiped", y.wipe(), 7);
        C.due("states without", y.states(-1), 8);
        int[] faults = {1, 2, NONE, 4, 5, 6, NONE};
        for (int i = 0; i < faults.length; i++) {
            y.type("b<a;c<b".charAt(i));
            C.due("what was wiped is not read on, byte " + i, y.fault(), faults[i]);
        }
        C.due("nor does it make a circle", y.needed(2, 1, 0), 1);
    }

    private static void fault() {
        C.says(8, "The FAULT; NONE.");
        faultOf("", NONE);
        faultOf("g<f", NONE);
        faultOf("h<f", 0);
        faultOf("g<f;f<g", 6);
        EasyToHard x = Check.typed(2, "f<g;g<f");
        C.due("of letters of n on", x.fault(), 6);
    }

    private static void needed() {
        EasyToHard x = Check.typed(3, "a<b;b<c");
        Check.tell(x, 0, "011", "001");
        C.says(9, "Whether a is NEEDED for b (below n), straight, as told (which = 0), as FOUND (1): 1, 0.");
        int[][] told = {{0, 1, 1}, {1, 2, 1}, {0, 2, 0}, {1, 0, 0}, {2, 1, 0}, {2, 0, 0}};
        int[][] found = {{0, 1, 0}, {1, 2, 0}, {0, 2, 0}, {1, 0, 1}, {2, 1, 1}, {2, 0, 1}};
        for (int which = 0; which < 2; which++) {
            x.set(3, which);
            for (int[] w : told) {
                C.due("told " + w[0] + " for " + w[1], x.needed(w[0], w[1], 0), w[2]);
            }
            for (int[] w : found) {
                C.due("found " + w[0] + " for " + w[1], x.needed(w[0], w[1], 1), w[2]);
            }
        }
    }

    private static void wrongNeeded() {
        C.says(9, "BAD: also one with itself.");
        for (int n = 2; n <= 7; n++) {
            EasyToHard x = Check.of(n);
            int[][] wrong = {{-1, 0, 0}, {n, 0, 0}, {0, -1, 0}, {0, n, 0}, {0, 1, -1}, {0, 1, 2}, {0, 0, 0}, {0, 0, 1},
                {n - 1, n - 1, 0}, {n - 1, n - 1, 1}, {LEAST, 0, 1}, {MOST, 0, 1}, {0, LEAST, 1}, {0, MOST, 1},
                {0, 1, LEAST}, {0, 1, MOST}, {n, n, 0}};
            for (int[] w : wrong) {
                C.bad("needed of " + java.util.Arrays.toString(w), x.needed(w[0], w[1], w[2]));
            }
            C.due("the first and the last", x.needed(0, n - 1, 0), 0);
            C.due("the last and the first", x.needed(n - 1, 0, 1), 0);
        }
    }
}
