import java.math.BigInteger;

/** Edges of digest() and of an object's whole life: promise 34, and what is said of its 512 calls. */
public final class EdgeDigestTest {
    private static BigInteger h;
    private static int joined;

    public static void main(String[] args) {
        longsThatWrap();
        asTheyAreTold();
        ofSetNothingAndChokeThree();
        changesNothing();
        fullSceneIsLeft();
        lastOfAllCalls();
        Due.end("EdgeDigestTest");
    }

    private static void join(ColdMotor x, Calls call, int... a) {
        h = h.multiply(BigInteger.valueOf(31)).add(BigInteger.valueOf(call.on(x, a)));
        joined++;
    }

    /** Worked out without any wrap; its lowest 64 bits are what longs that wrap come to. */
    private static long digestOf(ColdMotor x) {
        h = BigInteger.valueOf(17);
        joined = 0;
        for (int what = 0; what <= 7; what++) join(x, Calls.COUNT, what);
        for (int text = 0; text <= 1; text++) join(x, Calls.FAULT, text);
        for (int what = 0; what <= 6; what++) join(x, Calls.MOTOR, what);
        for (int t = 0; t <= 4; t++) for (int what = 0; what <= 1; what++) join(x, Calls.TROUBLE, t, what);
        for (int act = 0; act <= 9; act++) for (int what = 0; what <= 1; what++) join(x, Calls.CHANCE, act, 2, what);
        for (int act = 0; act <= 9; act++) join(x, Calls.PARTS, act);
        for (int what = 0; what <= 2; what++) join(x, Calls.BEST, 2, what);
        for (int which = 0; which <= 1; which++) for (int what = 0; what <= 1; what++) join(x, Calls.HABIT, which, what);
        join(x, Calls.HAS, -1);
        join(x, Calls.WORK, 2);
        for (int set : new int[] {0, 3, 31}) for (int what = 0; what <= 7; what++) join(x, Calls.STATE, set, what);
        join(x, Calls.DROWNED, 0, 3);
        for (int what = 0; what <= 3; what++) join(x, Calls.FITS, what);
        return h.longValue();
    }

    private static void longsThatWrap() {
        Due.says("h is 17; h becomes 31 h and each of: ..; as longs that wrap");
        for (Scene scene : Scene.values()) {
            long want = digestOf(scene.make());
            Due.is(scene + ": digest()", scene.make().digest(), want);
            Due.isTrue("it has wrapped: " + h.bitLength() + " bits", h.bitLength() > 63);
            Due.is("how many are joined", joined, 95);
        }
    }

    private static void asTheyAreTold() {
        Due.says("(as they are told)");
        ColdMotor x = Scene.SPOILT.make();
        Due.is("trouble is NOT", x.trouble(0, 0), Due.NOT);
        Due.is("parts is NOT", x.parts(0), -3);
        Due.is("has is NOT", x.has(-1), -3);
        Due.is("fits is NOT", x.fits(3), -3);
        Due.is("digest() of refusals", x.digest(), digestOf(Scene.SPOILT.make()));
    }

    private static void ofSetNothingAndChokeThree() {
        Due.says("drowned(0, 3)");
        // with no TROUBLE it runs, with one or a lesser choke it is another number
        for (String text : new String[] {"c4;d9", "c0;d9", "c0;d8"}) {
            Due.is("digest() of " + text, Due.motor(text).digest(), digestOf(Due.motor(text)));
        }
        Due.isTrue("another SET", Due.motor("c4;d9").drowned(0, 3) != Due.motor("c4;d9").drowned(1, 3));
        Due.isTrue("another CHOKE", Due.motor("c0;d9").drowned(0, 3) != Due.motor("c0;d9").drowned(0, 2));
    }

    private static void changesNothing() {
        Due.says("long digest()");
        for (Scene scene : Scene.values()) {
            ColdMotor x = scene.make();
            long first = x.digest();
            Due.is(scene + ": digest() again", x.digest(), first);
            Due.isTrue(scene + ": all else is as without it", Scene.ask(x).equals(Scene.ask(scene.make())));
        }
        ColdMotor y = Scene.USED.make();
        long before = y.digest();
        Due.is("lose(0)", y.lose(0), 4);
        Due.is("lose(0) again", y.lose(0), -11);
        Due.is("neither SHEETS nor FINDINGS are in it", y.digest(), before);
    }

    private static void fullSceneIsLeft() {
        Due.says("(1, if it RUNS already)");
        ColdMotor x = Scene.FULL.make();
        int[] counts = {60, 40, 24, 1, 16, 15, 0, 120, 1};
        for (int what = 0; what < counts.length; what++) {
            Due.is("count(" + what + ")", x.count(what), counts[what]);
        }
        Due.is("it RUNS", x.state(0, 7), 1);
        Due.is("best(2, 0)", x.best(2, 0), 1);
        Due.is("best(2, 1)", x.best(2, 1), 1);
    }

    private static void lastOfAllCalls() {
        Due.says("An object is used for at most 512 calls after it has been made");
        for (int call = 0; call < 33; call++) {
            ColdMotor x = new ColdMotor();
            // 4 and 507 calls behind which it is as at first, but for what was done by the first two
            x.type(0, 'c');
            x.type(0, '0');
            for (int i = 0; i < 169; i++) {
                x.see(0, 1);
                x.left();
                x.back();
            }
            x.type(1, '0');
            x.see(0, 2);
            ColdMotor fresh = new ColdMotor();
            fresh.type(0, 'c');
            fresh.type(0, '0');
            fresh.type(1, '0');
            fresh.see(0, 2);
            Calls last = Calls.values()[call];
            int[] a = new int[last.arguments()];
            for (int i = 0; i < a.length; i++) {
                a[i] = Math.max(0, last.low(i));
            }
            Due.is("the 512th: " + last.told(a), last.on(x, a), last.on(fresh, a));
        }
    }
}
