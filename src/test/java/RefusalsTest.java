import java.util.ArrayList;
import java.util.List;

/**
 * The row on refusals: the first that fits is the answer, and it changes nothing (a FINDING but
 * count() 8), told by an object like it on which the refused call was not made.
 */
public final class RefusalsTest {
    private static final int LEAST = Integer.MIN_VALUE, MOST = Integer.MAX_VALUE;
    private static final int NOT = -3, FULL = -4;
    private static final long LONG_NOT = Long.MIN_VALUE + 3;

    public static void main(String[] args) {
        numbersThatMayBe();
        numbersNotAsTold();
        twoNumbersNotAsTold();
        nullSheets();
        nothingThere();
        noRoom();
        otherFindings();
        longRefusals();
        constants();
        Due.end("RefusalsTest");
    }

    /** The refusal is the answer in a scene, and all else is as if the call had not been made. */
    private static void refused(Scene scene, long answer, int finding, Calls call, int... a) {
        ColdMotor x = scene.make();
        ColdMotor twin = scene.make();
        String told = scene + ": " + call.told(a);
        int before = twin.count(8);
        Due.is(told, call.on(x, a), answer);
        Due.is(told + ", count(8) then", x.count(8), finding == 0 ? before : finding);
        List<String> got = Scene.ask(x);
        List<String> want = Scene.ask(twin);
        for (int i = 0; i < want.size(); i++) {
            if (!want.get(i).equals(got.get(i))) {
                Due.isTrue(told + ", then " + got.get(i) + ", without it " + want.get(i), false);
                return;
            }
        }
        Due.isTrue(told, want.size() == got.size());
    }

    private static void found(Scene scene, int number, Calls call, int... a) {
        refused(scene, call == Calls.GET ? LEAST : -10 - number, number, call, a);
    }

    /** Numbers just and far outside of what an argument may be. */
    private static List<Integer> outside(Calls call, int argument) {
        List<Integer> all = new ArrayList<>();
        if (call.low(argument) > LEAST) {
            all.add(call.low(argument) - 1);
            all.add(LEAST);
        }
        if (call.high(argument) < MOST) {
            all.add(call.high(argument) + 1);
            all.add(MOST);
        }
        return all;
    }

    private static int[] lows(Calls call) {
        int[] a = new int[call.arguments()];
        for (int i = 0; i < a.length; i++) {
            a[i] = call.low(i);
        }
        return a;
    }

    private static void numbersThatMayBe() {
        Due.says("BAD -2 (a number not as told, no such thing)");
        for (Calls call : Calls.values()) {
            for (int corner = 0; corner < 1 << call.arguments(); corner++) {
                int[] a = lows(call);
                for (int i = 0; i < a.length; i++) {
                    a[i] = (corner >> i & 1) == 0 ? a[i] : call.high(i);
                }
                if (call != Calls.GET) {
                    long answer = call.on(Scene.NEW.make(), a);
                    Due.isTrue(call.told(a) + " is not BAD, but " + answer, answer != call.bad());
                }
            }
        }
    }

    private static void numbersNotAsTold() {
        Due.says("Refusals, the first that fits .. BAD -2 .. They change nothing");
        for (Scene scene : Scene.values()) {
            for (Calls call : Calls.values()) {
                for (int i = 0; i < call.arguments(); i++) {
                    for (int v : outside(call, i)) {
                        int[] a = lows(call);
                        a[i] = v;
                        refused(scene, call.bad(), 0, call, a);
                    }
                }
            }
        }
    }

    private static void twoNumbersNotAsTold() {
        Due.says("Refusals, the first that fits, in the order told at each act");
        for (Scene scene : Scene.values()) {
            for (Calls call : Calls.values()) {
                int[] below = lows(call);
                int[] above = lows(call);
                boolean any = false;
                for (int i = 0; i < call.arguments(); i++) {
                    List<Integer> out = outside(call, i);
                    below[i] = out.isEmpty() ? LEAST : out.get(0);
                    above[i] = out.isEmpty() ? MOST : out.get(out.size() - 1);
                    any |= !out.isEmpty();
                }
                if (any) {
                    refused(scene, call.bad(), 0, call, below);
                    refused(scene, call.bad(), 0, call, above);
                }
            }
        }
    }

    private static void nullSheets() {
        Due.says("1 NULL: the SHEET is LOST");
        Scene[] scenes = {Scene.NEW, Scene.USED, Scene.SPOILT};
        for (Scene scene : scenes) {
            found(scene, 1, Calls.READ, 3);
            found(scene, 1, Calls.LOSE, 3);
            found(scene, 1, Calls.WRITE, 0, 3);
            found(scene, 1, Calls.WRITE, 31, 3);
            for (int form = 0; form < 3; form++) {
                found(scene, 1, Calls.PUT, 3, form, 0, 1);
                found(scene, 1, Calls.PUT, 3, form, -1, 1);
                found(scene, 1, Calls.GET, 3, form, 0);
                found(scene, 1, Calls.GET, 3, form, 48);
            }
            found(scene, 1, Calls.COPY, 3, 0, 3, 0, 0);
            found(scene, 1, Calls.COPY, 3, -1, 3, 0, 0);
            found(scene, 1, Calls.COPY, 3, 0, 2, 0, 1);
            found(scene, 1, Calls.COPY, 2, 0, 3, 0, 1);
            found(scene, 1, Calls.COPY, 2, MOST, 3, LEAST, -1);
        }
    }

    private static void nothingThere() {
        Due.says("NOT -3 (as told)");
        refused(Scene.NEW, NOT, 0, Calls.BACK);
        for (int what = 0; what < 4; what++) {
            refused(Scene.NEW, NOT, 0, Calls.FITS, what);
            refused(Scene.SPOILT, NOT, 0, Calls.FITS, what);
        }
        for (int what = 0; what < 2; what++) {
            refused(Scene.SPOILT, LONG_NOT, 0, Calls.ODDS, 31, what);
            refused(Scene.SPOILT, LONG_NOT, 0, Calls.TROUBLE, 4, what);
            refused(Scene.SPOILT, LONG_NOT, 0, Calls.CHANCE, 9, 6, what);
            refused(Scene.SPOILT, LONG_NOT, 0, Calls.SURE, 9, what);
            refused(Scene.SPOILT, LONG_NOT, 0, Calls.HABIT, 0, what);
            refused(Scene.SPOILT, LONG_NOT, 0, Calls.HABIT, 1, what);
            refused(Scene.FULL, LONG_NOT, 0, Calls.HABIT, 1, what);
        }
        for (int what = 0; what < 3; what++) {
            for (int k = 1; k <= 3; k++) {
                refused(Scene.SPOILT, LONG_NOT, 0, Calls.BEST, k, what);
            }
            refused(Scene.SPOILT, LONG_NOT, 0, Calls.WORK, what);
            refused(Scene.FULL, LONG_NOT, 0, Calls.WORK, what);
        }
        refused(Scene.SPOILT, NOT, 0, Calls.PARTS, 0);
        refused(Scene.SPOILT, NOT, 0, Calls.HAS, -1);
        refused(Scene.SPOILT, NOT, 0, Calls.HAS, 31);
        refused(Scene.FULL, NOT, 0, Calls.HAS, 0);
    }

    private static void noRoom() {
        Due.says("FULL -4");
        refused(Scene.FULL, FULL, 0, Calls.TYPE, 0, 0);
        refused(Scene.FULL, FULL, 0, Calls.TYPE, 0, ';');
        refused(Scene.FULL, FULL, 0, Calls.TYPE, 1, '1');
        refused(Scene.FULL, FULL, 0, Calls.TYPE, 1, 255);
        refused(Scene.FULL, FULL, 0, Calls.SEE, 0, 0);
        refused(Scene.FULL, FULL, 0, Calls.SEE, 9, 6);
        refused(Scene.FULL, FULL, 0, Calls.MORNING, 0, 0, 0);
        refused(Scene.FULL, FULL, 0, Calls.MORNING, 40, 9, 30);
        // read() tells how many it took: none is no refusal, but it changes nothing either
        refused(Scene.FULL, 0, 0, Calls.READ, 0);
    }

    private static void otherFindings() {
        Due.says("other FINDINGS. They change nothing (FINDINGS but count() 8).");
        for (Scene scene : Scene.values()) {
            found(scene, 5, Calls.SHEET, 2, 0, -1);
            found(scene, 5, Calls.SHEET, 3, 2, LEAST);
        }
        for (int s = 0; s < 3; s++) {
            for (int form = 0; form < 3; form++) {
                for (int i : new int[] {-1, 4, LEAST, MOST}) {
                    found(Scene.USED, form == s ? 2 : 3, Calls.PUT, s, form, i, 9);
                    found(Scene.USED, form == s ? 2 : 3, Calls.GET, s, form, i);
                }
                if (form != s) {
                    found(Scene.USED, 3, Calls.PUT, s, form, 0, 9);
                    found(Scene.USED, 3, Calls.GET, s, form, 3);
                    found(Scene.USED, 4, Calls.COPY, s, 0, form, 0, 1);
                    found(Scene.USED, 4, Calls.COPY, s, 0, form, 0, 0);
                    found(Scene.USED, 4, Calls.COPY, s, -1, form, 5, MOST);
                }
            }
            int[][] wrong = {{-1, 0, 1}, {0, -1, 1}, {0, 0, -1}, {0, 0, 5}, {1, 0, 4}, {0, 1, 4}, {4, 0, 1}, {5, 0, 0},
                {0, 5, 0}, {1, 1, MOST}, {MOST, 1, 1}, {1, MOST, MOST}, {LEAST, 1, LEAST}};
            for (int[] w : wrong) {
                found(Scene.USED, 2, Calls.COPY, s, w[0], s, w[1], w[2]);
            }
        }
        found(Scene.FULL, 2, Calls.PUT, 0, 0, 48, 9);
        found(Scene.FULL, 2, Calls.GET, 0, 0, 48);
        found(Scene.FULL, 2, Calls.COPY, 0, 1, 3, 0, 48);
        found(Scene.FULL, 4, Calls.COPY, 0, 1, 1, 0, 48);
    }

    private static void longRefusals() {
        Due.says("Where the answer is a long, a refusal -x is the least long and x more.");
        long bad = -9223372036854775806L;
        long not = -9223372036854775805L;
        ColdMotor x = Scene.SPOILT.make();
        Due.is("odds(32, 0)", x.odds(32, 0), bad);
        Due.is("odds(0, 0)", x.odds(0, 0), not);
        Due.is("trouble(5, 0)", x.trouble(5, 0), bad);
        Due.is("trouble(0, 0)", x.trouble(0, 0), not);
        Due.is("chance(10, 0, 0)", x.chance(10, 0, 0), bad);
        Due.is("chance(0, 0, 0)", x.chance(0, 0, 0), not);
        Due.is("sure(10, 0)", x.sure(10, 0), bad);
        Due.is("sure(0, 0)", x.sure(0, 0), not);
        Due.is("best(4, 0)", x.best(4, 0), bad);
        Due.is("best(3, 2)", x.best(3, 2), not);
        Due.is("habit(2, 0)", x.habit(2, 0), bad);
        Due.is("habit(1, 1)", x.habit(1, 1), not);
        Due.is("work(3)", x.work(3), bad);
        Due.is("work(2)", x.work(2), not);
    }

    private static void constants() {
        Due.says("NONE = -1, BAD = -2, NOT = -3, FULL = -4");
        Due.is("NONE", ColdMotor.NONE, -1);
        Due.is("BAD", ColdMotor.BAD, -2);
        Due.is("NOT", ColdMotor.NOT, -3);
        Due.is("FULL", ColdMotor.FULL, -4);
    }
}
