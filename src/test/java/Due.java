/** Counts answers and tells those that are not as due. */
final class Due {
    static final long BAD = Long.MIN_VALUE + 2;
    static final long NOT = Long.MIN_VALUE + 3;
    private static int calls = 0;
    private static int wrong = 0;
    private static String sentence = "";

    private Due() {
    }

    /** What is tested from here on: the document's own words, told with each answer that is wrong. */
    static void says(String words) {
        sentence = " [" + words + "]";
    }

    static void is(String call, long got, long want) {
        calls++;
        if (got != want) {
            wrong++;
            if (wrong <= 50) {
                System.out.println(call + " answered " + got + ", due is " + want + sentence);
            }
        }
    }

    static void isTrue(String what, boolean holds) {
        is(what, holds ? 1 : 0, 1);
    }

    /** A fraction of two calls, above and below. */
    static void fraction(String call, long above, long below, long wantAbove, long wantBelow) {
        is(call + " above", above, wantAbove);
        is(call + " below", below, wantBelow);
    }

    static boolean anyWrong() {
        return wrong > 0;
    }

    static void end(String test) {
        System.out.println(test + ": " + calls + " answers, " + wrong + " not as due");
        if (wrong > 0 || calls == 0) {
            System.exit(1);
        }
    }

    static ColdMotor motor(String text) {
        ColdMotor x = new ColdMotor();
        retype(x, 0, text);
        return x;
    }

    static void retype(ColdMotor x, int text, String bytes) {
        x.wipe(text);
        for (int i = 0; i < bytes.length(); i++) {
            is("type(" + text + ") of " + bytes, x.type(text, bytes.charAt(i)), i + 1);
        }
    }
}
