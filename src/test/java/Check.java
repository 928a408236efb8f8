/** Compares answers with those that are due, tells each that differs, and ends with code 1 if one did. */
final class Check {
    static final long BAD_LONG = Long.MIN_VALUE + 2, NOT_LONG = Long.MIN_VALUE + 3;

    private String sentence = "";
    private int checked;
    private int wrong;

    /**
     * Words of the document, of a promise or (0) of what stands ahead of promise 1: what is checked
     * from here on would fail if they were broken. SentencesTest looks for them in the document.
     */
    void says(int promise, String words) {
        sentence = "promise " + promise + " says '" + words + "': ";
    }

    void due(String call, long got, long want) {
        checked++;
        if (got != want) {
            wrong++;
            System.out.println(sentence + call + " answered " + got + ", due is " + want);
        }
    }

    void bad(String call, long got) {
        due(call, got, EasyToHard.BAD);
    }

    void holds(String what, boolean isSo) {
        due(what, isSo ? 1 : 0, 1);
    }

    void finish() {
        System.out.println(checked + " checks, " + wrong + " wrong");
        if (wrong != 0 || checked == 0) {
            System.exit(1);
        }
    }

    /** An object with n questions. */
    static EasyToHard of(int n) {
        EasyToHard x = new EasyToHard();
        x.set(0, n);
        return x;
    }

    /** An object with n questions and a text of needs. */
    static EasyToHard typed(int n, String text) {
        EasyToHard x = of(n);
        type(x, text);
        return x;
    }

    /** Tells answers at a time, a row of a pupil each: 0, 1, anything else: nothing is told. */
    static void tell(EasyToHard x, int time, String... rows) {
        for (int pupil = 0; pupil < rows.length; pupil++) {
            for (int question = 0; question < rows[pupil].length(); question++) {
                int v = rows[pupil].charAt(question) - '0';
                if (v == 0 || v == 1) {
                    x.answer(pupil, question, v, time);
                }
            }
        }
    }

    static void type(EasyToHard x, String text) {
        for (int i = 0; i < text.length(); i++) {
            x.type(text.charAt(i));
        }
    }

    static void fill(EasyToHard x, int s, int form, int... items) {
        x.sheet(s, form, items.length);
        for (int i = 0; i < items.length; i++) {
            x.lay(s, form, i, items[i]);
        }
    }
}
