/** Compares answers with those that are due, tells each that differs, and ends with code 1 if one did. */
final class Check {
    static final long BAD_LONG = Long.MIN_VALUE + 2, NOT_LONG = Long.MIN_VALUE + 3;

    private int checked;
    private int wrong;

    void due(String call, long got, long want) {
        checked++;
        if (got != want) {
            wrong++;
            System.out.println(call + " answered " + got + ", due is " + want);
        }
    }

    void holds(String what, boolean isSo) {
        due(what, isSo ? 1 : 0, 1);
    }

    void finish() {
        System.out.println(checked + " checks, " + wrong + " wrong");
        if (wrong != 0 || checked == 0) {
            System.exit(1);
        }
    }

    /** Tells answers at a time, a row of a pupil each: 0, 1, anything else: nothing is told. */
    static void tell(EasyToHard x, int time, String... rows) {
        for (int pupil = 0; pupil < rows.length; pupil++) {
            for (int question = 0; question < rows[pupil].length(); question++) {
                int v = rows[pupil].charAt(question) - '0';
                if (v == 0 || v == 1) {
                    x.answer(pupil, question, v, time);
                }
            }
        }
    }

    static void type(EasyToHard x, String text) {
        for (int i = 0; i < text.length(); i++) {
            x.type(text.charAt(i));
        }
    }

    static void fill(EasyToHard x, int s, int form, int... items) {
        x.sheet(s, form, items.length);
        for (int i = 0; i < items.length; i++) {
            x.lay(s, form, i, items[i]);
        }
    }
}
