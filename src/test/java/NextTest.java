/** Promises 15 to 18: chance, parts, sure, best. */
public final class NextTest {
    public static void main(String[] args) {
        chance();
        parts();
        sure();
        bestOfOne();
        bestOfMore();
        bestOfThoseLeft();
        bestOfLikeOnes();
        refusals();
        Due.end("NextTest");
    }

    private static void chanceIs(ColdMotor x, int act, int sign, long above, long below) {
        Due.fraction("15: chance(" + act + ", " + sign + ")", x.chance(act, sign, 0), x.chance(act, sign, 1), above, below);
    }

    /** Each trouble is there or not by even odds, and the motor runs at once without. */
    private static ColdMotor even() {
        ColdMotor x = Due.motor("c0");
        for (int t = 0; t < 5; t++) {
            x.ahead(t, 8);
        }
        return x;
    }

    private static void chance() {
        ColdMotor x = even();
        chanceIs(x, 0, 2, 1, 32);
        chanceIs(x, 0, 1, 1, 32);
        chanceIs(x, 0, 0, 15, 16);
        chanceIs(x, 0, 3, 0, 1);
        chanceIs(x, 6, 0, 1, 1);
        chanceIs(x, 5, 6, 1, 1);
        chanceIs(x, 5, 5, 0, 1);
        x.ahead(2, 0);
        x.ahead(4, 0);
        chanceIs(x, 0, 2, 1, 8);
        x.see(0, 1);
        chanceIs(x, 9, 0, 1, 1);
        chanceIs(x, 0, 2, 0, 1);
        x.see(9, 0);
        chanceIs(x, 0, 2, 1, 1);
        x.see(0, 2);
        chanceIs(x, 0, 2, 0, 1);
        chanceIs(x, 0, 4, 1, 1);
        Due.is("15: looking changes nothing", x.state(8, 1), 43);
    }

    private static void parts() {
        ColdMotor x = even();
        int[] want = {3, 3, 3, 2, 1, 1, 1, 1, 1, 1};
        for (int act = 0; act < 10; act++) {
            Due.is("16: parts(" + act + ")", x.parts(act), want[act]);
        }
        x.ahead(3, 0);
        Due.is("16: a sign with no odds does not count", x.parts(0), 2);
        x.see(0, 2);
        Due.is("16: one is left", x.parts(0), 1);
        Due.is("16: parts(-1)", x.parts(-1), -2);
        Due.is("16: parts(10)", x.parts(10), -2);
    }

    private static void sureIs(ColdMotor x, int act, long above, long below) {
        Due.fraction("17: sure(" + act + ")", x.sure(act, 0), x.sure(act, 1), above, below);
    }

    private static void sure() {
        ColdMotor x = even();
        sureIs(x, 0, 3, 32);
        sureIs(x, 3, 1, 16);
        sureIs(x, 4, 1, 32);
        x.ahead(2, 4);
        // the likeliest are those that are not STARVED: 12 by 8 by 8 by 8 by 8 each
        sureIs(x, 4, 3, 64);
        sureIs(x, 0, 9, 64);
        x.see(0, 2);
        sureIs(x, 0, 1, 1);
    }

    private static void bestIs(ColdMotor x, int k, int act, long above, long below) {
        Due.fraction("18: best(" + k + ")", x.best(k, 0), x.best(k, 1), above, below);
        Due.is("18: best(" + k + ", 2)", x.best(k, 2), act);
    }

    private static void bestOfOne() {
        ColdMotor x = even();
        bestIs(x, 1, 0, 1, 32);
        Due.retype(x, 0, "c0;d2");
        bestIs(x, 1, 1, 1, 32);
        Due.retype(x, 0, "c0;d0");
        bestIs(x, 1, 2, 1, 32);
        Due.retype(x, 0, "c4;d0");
        bestIs(x, 1, 3, 1, 32);
        Due.retype(x, 0, "s0");
        bestIs(x, 1, 0, 0, 1);
    }

    private static void bestOfMore() {
        ColdMotor x = even();
        for (int t = 0; t < 5; t++) {
            x.ahead(t, t == 3 ? 16 : 0);
        }
        // LATE for sure: to set the time and to turn
        bestIs(x, 1, 0, 0, 1);
        bestIs(x, 2, 9, 1, 1);
        // with three it may cough first
        bestIs(x, 3, 0, 1, 1);
        x.ahead(3, 8);
        // a turn, by which it runs or coughs; then the time
        bestIs(x, 1, 0, 1, 2);
        bestIs(x, 2, 9, 1, 1);
        bestIs(x, 3, 0, 1, 1);
        x.ahead(1, 8);
        Due.retype(x, 0, "c0;s6;b9");
        // SPARKLESS or LATE or both or none: by the first turn none runs on, LATE alone coughs
        bestIs(x, 1, 0, 1, 4);
        bestIs(x, 2, 8, 1, 2);
        // file, turn (a cough or a run): too few acts for the time as well, set and file do it
        bestIs(x, 3, 8, 1, 1);
        x.see(8, 0);
        x.see(9, 0);
        bestIs(x, 1, 0, 1, 1);
        x.see(0, 2);
        bestIs(x, 1, 0, 1, 1);
        bestIs(x, 2, 0, 1, 1);
        bestIs(x, 3, 0, 1, 1);
    }

    private static void bestOfThoseLeft() {
        ColdMotor x = Due.motor("c0");
        for (int t = 0; t < 5; t++) {
            x.ahead(t, t == 4 ? 8 : 0);
        }
        x.see(0, 0);
        // it would run without a trouble, but it did nothing: FROZEN, 1 of warmth
        bestIs(x, 1, 0, 0, 1);
        bestIs(x, 2, 6, 1, 1);
        x.back();
        x.ahead(4, 0);
        Due.retype(x, 0, "c9;d0");
        // with no trouble for sure: too cold for any choke, but not with a spoon
        bestIs(x, 1, 0, 0, 1);
        bestIs(x, 2, 7, 1, 1);
        Due.retype(x, 0, "c0");
        for (int t = 0; t < 5; t++) {
            x.ahead(t, 15);
        }
        x.see(0, 2);
        // it runs with the least of all odds
        bestIs(x, 1, 0, 1, 1);
    }

    private static void bestOfLikeOnes() {
        // no light but for turns: whatever comes first, a turn of any choke that fires is needed
        ColdMotor x = Due.motor("c0;m1;d9");
        bestIs(x, 2, 0, 13 * 13 * 13 * 13 * 13, 1 << 20);
        Due.retype(x, 0, "m0");
        bestIs(x, 3, 0, 0, 1);
        Due.retype(x, 0, "m3");
        // PRIME and one turn are all the light there is
        bestIs(x, 2, 7, 2197, 4096);
        // with three, to WAIT comes ahead of it: it cannot be done, but takes no light
        bestIs(x, 3, 4, 2197, 4096);
        // FROZEN for sure: heat, then a turn
        Due.retype(x, 0, "c0");
        for (int t = 0; t < 5; t++) {
            x.ahead(t, t == 4 ? 16 : 0);
        }
        bestIs(x, 1, 0, 0, 1);
        bestIs(x, 2, 6, 1, 1);
        // with three, the first of all leaves two
        bestIs(x, 3, 0, 1, 1);
        Due.retype(x, 0, "c0;m7");
        bestIs(x, 2, 6, 1, 1);
        // a turn first would leave 6 of light, too few to heat and turn; but PRIME serves as well
        bestIs(x, 3, 0, 1, 1);
        Due.retype(x, 0, "c0;m3");
        bestIs(x, 2, 7, 1, 1);
        // a turn ahead of it would take light, to WAIT does not
        bestIs(x, 3, 4, 1, 1);
    }

    private static void refusals() {
        ColdMotor x = new ColdMotor();
        for (int round = 0; round < 2; round++) {
            int[][] chances = {{-1, 0, 0}, {10, 0, 0}, {0, -1, 0}, {0, 7, 0}, {0, 0, -1}, {0, 0, 2}};
            for (int[] b : chances) {
                Due.is("15: BAD", x.chance(b[0], b[1], b[2]), Due.BAD);
            }
            Due.is("16: BAD", x.parts(-1), -2);
            Due.is("16: BAD", x.parts(10), -2);
            int[][] sures = {{-1, 0}, {10, 0}, {0, -1}, {0, 2}};
            for (int[] b : sures) {
                Due.is("17: BAD", x.sure(b[0], b[1]), Due.BAD);
            }
            int[][] bests = {{0, 0}, {4, 0}, {-1, 0}, {1, -1}, {1, 3}, {Integer.MAX_VALUE, 0}, {1, Integer.MIN_VALUE}};
            for (int[] b : bests) {
                Due.is("18: BAD", x.best(b[0], b[1]), Due.BAD);
            }
            x.see(4, 1);
        }
        Due.is("15: NOT", x.chance(0, 0, 0), Due.NOT);
        Due.is("15: NOT", x.chance(9, 6, 1), Due.NOT);
        Due.is("16: NOT", x.parts(0), -3);
        Due.is("17: NOT", x.sure(0, 1), Due.NOT);
        for (int k = 1; k <= 3; k++) {
            for (int what = 0; what < 3; what++) {
                Due.is("18: NOT", x.best(k, what), Due.NOT);
            }
        }
    }
}
