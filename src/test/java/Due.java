/** Counts answers that are not due, and makes the objects that tests begin with. */
final class Due {
    static final int BYTES = 0;
    static final int SHORTS = 1;
    static final int INTS = 2;

    private static int right = 0;
    private static int wrong = 0;

    private Due() {
    }

    static void is(String what, long got, long due) {
        if (got == due) {
            right++;
        } else {
            wrong++;
            if (wrong <= 40) {
                System.out.println(what + " answered " + got + ", due is " + due);
            }
        }
    }

    static void holds(String what, boolean got) {
        is(what, got ? 1 : 0, 1);
    }

    /** Ends the program, with 1 if an answer was wrong. */
    static void end() {
        System.out.println(right + " answers as due, " + wrong + " not");
        if (wrong > 0 || right == 0) {
            System.exit(1);
        }
    }

    static ElevenCodes with(String... texts) {
        ElevenCodes x = new ElevenCodes();
        for (int i = 0; i < texts.length; i++) {
            text(x, i, texts[i]);
        }
        return x;
    }

    static void text(ElevenCodes x, int code, String text) {
        x.wipe(code);
        for (int i = 0; i < text.length(); i++) {
            is("type " + text, x.type(code, text.charAt(i)), i + 1);
        }
    }

    static void sheet(ElevenCodes x, int s, int type, int... items) {
        is("sheet", x.sheet(s, type, items.length), items.length);
        for (int i = 0; i < items.length; i++) {
            is("lay", x.lay(s, type, i, items[i]), 1);
        }
    }

    /** A match more by sheet 3, which is lost behind it. */
    static int match(ElevenCodes x, int... moments) {
        sheet(x, 3, INTS, moments);
        int match = x.match(3, moments.length);
        x.lose(3);
        return match;
    }

    static void verdicts(ElevenCodes x, int match, int... told) {
        sheet(x, 3, INTS, told);
        is("verdicts", x.verdicts(match, 3), 1);
        x.lose(3);
    }
}
