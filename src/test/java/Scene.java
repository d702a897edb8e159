import java.util.ArrayList;
import java.util.List;

/** Objects in several states, made anew each time by the same calls, and all that can be asked of one. */
enum Scene {
    /** Nothing was done yet. */
    NEW,
    /** Something of everything; SHEETS of each FORM and one LOST; the latest FINDING is 5. */
    USED,
    /** No room in any row, one SET is LEFT, and the HABIT has a FAULT; the latest FINDING is 1. */
    FULL,
    /** Faults in both texts, and no SET is LEFT. */
    SPOILT;

    ColdMotor make() {
        ColdMotor x = new ColdMotor();
        switch (this) {
            case USED: use(x); break;
            case FULL: fill(x); break;
            case SPOILT: spoil(x); break;
            default: break;
        }
        return x;
    }

    private static void text(ColdMotor x, int text, String bytes) {
        for (int i = 0; i < bytes.length(); i++) {
            x.type(text, bytes.charAt(i));
        }
    }

    private static void use(ColdMotor x) {
        text(x, 0, "c0;b9;m40");
        text(x, 1, "0,9,0*2");
        x.see(0, 0);
        x.see(8, 0);
        x.ahead(0, 1);
        x.ahead(4, 7);
        x.morning(20, 3, 9);
        x.morning(5, 0, 2);
        for (int s = 0; s < 3; s++) {
            x.sheet(s, s, 4);
            for (int i = 0; i < 4; i++) {
                x.put(s, s, i, 5 * s + i - 3);
            }
        }
        x.sheet(3, 0, -1);
    }

    private static void fill(ColdMotor x) {
        text(x, 0, "p1;".repeat(18) + "p7;m99");
        text(x, 1, "0,".repeat(19) + "4,");
        // it coughs four times and runs by the fifth turn, if it has no TROUBLE
        for (int i = 0; i < 24; i++) {
            x.see(0, i < 4 ? 1 : i == 4 ? 2 : 4);
        }
        for (int i = 0; i < 16; i++) {
            x.morning(2 * i, i % 10, i);
        }
        x.lose(0);
        for (int s = 0; s < 4; s++) {
            x.sheet(s, s % 3, 48);
            x.put(s, s % 3, 47, 7 + s);
        }
    }

    private static void spoil(ColdMotor x) {
        text(x, 0, "p1;b30;x");
        text(x, 1, "0*2,");
        x.see(4, 1);
        x.sheet(2, 1, 2);
        x.put(2, 1, 0, 10);
    }

    /**
     * All answers of questions, then of changes made one after the other: what a call has changed
     * unseen shows in these. Some 330 calls.
     */
    static List<String> ask(ColdMotor x) {
        List<String> all = new ArrayList<>();
        questions(all, x);
        sheets(all, x);
        changes(all, x);
        return all;
    }

    private static void add(List<String> all, ColdMotor x, Calls call, int... a) {
        all.add(call.told(a) + " " + call.on(x, a));
    }

    private static void questions(List<String> all, ColdMotor x) {
        add(all, x, Calls.DIGEST);
        add(all, x, Calls.LEFT);
        for (int what = 0; what < 8; what++) {
            add(all, x, Calls.COUNT, what);
        }
        for (int set = 0; set < 32; set += 2) {
            add(all, x, Calls.ODDS, set, 0);
            add(all, x, Calls.STATE, set, set / 2 % 8);
            add(all, x, Calls.HAS, set);
        }
        for (int act = 0; act < 10; act++) {
            add(all, x, Calls.SIGN, act, act);
            add(all, x, Calls.SURE, act, 0);
            add(all, x, Calls.CHANCE, act, 0, 0);
        }
        for (int what = 0; what < 3; what++) {
            add(all, x, Calls.BEST, 1, what);
            add(all, x, Calls.BEST, 3, what);
            add(all, x, Calls.WORK, what);
        }
        for (int a = 0; a < 10; a++) {
            add(all, x, Calls.MISSES, a, 9 - a, a % 4);
        }
    }

    private static void sheets(List<String> all, ColdMotor x) {
        for (int s = 0; s < 4; s++) {
            for (int form = 0; form < 3; form++) {
                for (int i = 0; i < 5; i++) {
                    add(all, x, Calls.GET, s, form, i);
                }
                add(all, x, Calls.GET, s, form, 47);
            }
        }
    }

    private static void changes(List<String> all, ColdMotor x) {
        for (int s = 0; s < 4; s++) {
            add(all, x, Calls.COPY, s, 0, s, 1, 1);
            add(all, x, Calls.WRITE, 8, s);
            add(all, x, Calls.LOSE, s);
        }
        for (int i = 0; i < 4; i++) {
            add(all, x, Calls.BACK);
            add(all, x, Calls.LEFT);
        }
        add(all, x, Calls.SEE, 0, 1);
        add(all, x, Calls.LEFT);
        int[] motor = {'s', '1', ';', 'd', '9'};
        int[] habit = {'3', '*', '9'};
        for (int b : motor) {
            add(all, x, Calls.TYPE, 0, b);
            add(all, x, Calls.FAULT, 0);
        }
        for (int b : habit) {
            add(all, x, Calls.TYPE, 1, b);
            add(all, x, Calls.FAULT, 1);
        }
        for (int t = 0; t < 5; t++) {
            add(all, x, Calls.AHEAD, t, 8);
        }
        add(all, x, Calls.MORNING, 11, 5, 13);
        add(all, x, Calls.DIGEST);
        add(all, x, Calls.WIPE, 0);
        add(all, x, Calls.WIPE, 1);
        add(all, x, Calls.DIGEST);
    }
}
