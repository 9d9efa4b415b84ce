/** Compares answers with those that are due, and ends a test with exit code 1 if one was wrong. */
final class Due {
    private static int wrong = 0;
    private static int asked = 0;
    private static String under = "";

    /** The words of the document that the answers from now on stand for. */
    static void under(String words) {
        under = words.isEmpty() ? "" : "[" + words + "] ";
    }

    static void is(String call, long got, long want) {
        asked++;
        if (got != want) {
            wrong++;
            System.out.println(under + call + " answered " + got + ", due is " + want);
        }
    }

    static void is(String call, boolean got, boolean want) {
        is(call, got ? 1L : 0L, want ? 1L : 0L);
    }

    /** Value i of SEEN is a TEXT of just these characters. */
    static void isText(String call, ShiftHouse x, int i, String want) {
        is(call + ": length", x.value(i), want.length());
        for (int j = 0; j < want.length(); j++) {
            is(call + ": character " + j, x.letter(i, j), want.charAt(j));
        }
        is(call + ": behind its end", x.letter(i, want.length()), 0);
        is(call + ": ahead of its start", x.letter(i, -1), 0);
    }

    /** The row under a key is there, in THE SCHEMA or the next one, with just these numbers. */
    static void isRow(String call, ShiftHouse x, int key, boolean next, long... want) {
        is(call + ": read of " + key, x.read(key, next), 1);
        is(call + ": values of " + key, x.seen(), want.length);
        for (int i = 0; i < want.length; i++) {
            is(call + ": value " + i + " of " + key, x.value(i), want[i]);
        }
    }

    static int asked() {
        return asked;
    }

    static boolean isAnyWrong() {
        return wrong > 0;
    }

    static void end() {
        System.out.println(wrong + " of " + asked + " answers are not as due");
        if (wrong > 0) {
            System.exit(1);
        }
    }
}
