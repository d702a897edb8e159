/** Edges of what comes next: a test for each sentence, promises 15 to 18. */
public final class EdgeNextTest {
    private static final int LATE = 8;

    public static void main(String[] args) {
        chanceOfEachSign();
        chanceOfNoneAndOfAll();
        chanceBehindAll();
        partsAtLeastAndAtMost();
        partsWithOdds();
        sureAtLeastAndAtMost();
        sureOfLikeliest();
        bestOfOneTwoThree();
        bestByWhatIsSeenThen();
        bestOfAllSets();
        bestOfLikeOnes();
        bestOfNone();
        bestWhenItRuns();
        notAny();
        Due.end("EdgeNextTest");
    }

    private static void chanceIs(ColdMotor x, int act, int sign, long above, long below) {
        Due.fraction("chance(" + act + ", " + sign + ")", x.chance(act, sign, 0), x.chance(act, sign, 1), above, below);
    }

    private static void sureIs(ColdMotor x, int act, long above, long below) {
        Due.fraction("sure(" + act + ")", x.sure(act, 0), x.sure(act, 1), above, below);
    }

    private static void bestIs(ColdMotor x, int k, int act, long above, long below) {
        Due.fraction("best(" + k + ")", x.best(k, 0), x.best(k, 1), above, below);
        Due.is("best(" + k + ", 2)", x.best(k, 2), act);
    }

    /** Of all TROUBLES those of the set are there by so many sixteenths, the others never. */
    private static ColdMotor only(String motor, int set, int v) {
        ColdMotor x = Due.motor(motor);
        for (int t = 0; t < 5; t++) {
            x.ahead(t, (set >> t & 1) == 1 ? v : 0);
        }
        return x;
    }

    private static void chanceOfEachSign() {
        Due.says("CHANCE of a SIGN by an ACT.");
        // a TIME of 19 kicks; LATE it is 13 and runs
        ColdMotor x = only("c0;t19", LATE, 4);
        long[][] turn = {{0, 1}, {0, 1}, {1, 4}, {3, 4}, {0, 1}, {0, 1}, {0, 1}};
        for (int sign = 0; sign < 7; sign++) {
            chanceIs(x, 0, sign, turn[sign][0], turn[sign][1]);
            chanceIs(x, 5, sign, sign == 6 ? 1 : 0, 1);
            chanceIs(x, 4, sign, sign == 0 ? 1 : 0, 1);
        }
        ColdMotor y = only("c0;d8", 4, 8);
        y.see(3, 0);
        // STARVED it is dry
        chanceIs(y, 5, 5, 1, 2);
        chanceIs(y, 5, 6, 1, 2);
        ColdMotor z = only("c0;m1", LATE, 8);
        chanceIs(z, 7, 4, 1, 1);
        z.see(0, 1);
        chanceIs(z, 0, 4, 1, 1);
    }

    private static void chanceOfNoneAndOfAll() {
        Due.says("CHANCE of a SIGN: above, below.");
        ColdMotor x = new ColdMotor();
        for (int act = 4; act < 10; act++) {
            int sure = act == 5 ? 6 : 0;
            for (int sign = 0; sign < 7; sign++) {
                chanceIs(x, act, sign, sign == sure ? 1 : 0, 1);
            }
        }
        Due.is("chance(-1, 0, 0)", x.chance(-1, 0, 0), Due.BAD);
        Due.is("chance(10, 0, 0)", x.chance(10, 0, 0), Due.BAD);
        Due.is("chance(0, -1, 0)", x.chance(0, -1, 0), Due.BAD);
        Due.is("chance(0, 7, 0)", x.chance(0, 7, 0), Due.BAD);
        Due.is("chance(0, 0, -1)", x.chance(0, 0, -1), Due.BAD);
        Due.is("chance(0, 0, 2)", x.chance(0, 0, 2), Due.BAD);
    }

    private static void chanceBehindAll() {
        Due.says("Behind all that was SEEN");
        ColdMotor x = only("c0;m99;b30;d3", LATE, 8);
        for (int i = 0; i < 24; i++) {
            x.see(0, 1);
        }
        // both agree with 24 coughs; SEEN is full, but what comes next can be told
        chanceIs(x, 0, 1, 1, 1);
        chanceIs(x, 1, 2, 1, 2);
        Due.is("parts(9) behind 24", x.parts(9), 1);
        sureIs(x, 9, 1, 2);
        Due.is("count(2)", x.count(2), 24);
        ColdMotor y = only("c0;m99;b30;d3", LATE, 8);
        for (int i = 0; i < 23; i++) {
            y.see(6, 0);
        }
        // 16 times it could be heated, the others could not
        Due.is("SIGN 4 was to be seen", y.left(), 0);
    }

    private static void partsAtLeastAndAtMost() {
        Due.says("PARTS: by how many unlike SIGNS an ACT could part SETS that are LEFT");
        ColdMotor x = Due.motor("c0");
        for (int act = 0; act < 10; act++) {
            Due.is("parts(" + act + ")", x.parts(act), act < 3 ? 3 : act == 3 ? 2 : 1);
        }
        // TIME 19: a kick; LATE a run; PRESSLESS of 8 a cough; STARVED nothing
        Due.is("four at most", Due.motor("c0;t19;p8").parts(0), 4);
        Due.is("one is left", only("c0", 0, 0).parts(0), 1);
        Due.is("parts(-1)", x.parts(-1), -2);
        Due.is("parts(10)", x.parts(10), -2);
        Due.is("it cannot be done: one SIGN", Due.motor("m0").parts(0), 1);
    }

    private static void partsWithOdds() {
        Due.says("(with ODDS above 0)");
        ColdMotor x = Due.motor("c0;t19;p8");
        x.ahead(3, 0);
        Due.is("never LATE: it does not run", x.parts(0), 3);
        x.ahead(0, 0);
        Due.is("nor PRESSLESS: it does not cough", x.parts(0), 2);
        x.ahead(2, 16);
        Due.is("STARVED always: nothing", x.parts(0), 1);
        x.ahead(2, 1);
        Due.is("by the least odds", x.parts(0), 2);
        x.ahead(2, 15);
        Due.is("by the least odds", x.parts(0), 2);
    }

    private static void sureAtLeastAndAtMost() {
        Due.says("SURE: the mean, over the SIGNS of an ACT, of the ODDS that the likeliest SET has then.");
        ColdMotor x = Due.motor("c0");
        for (int t = 0; t < 5; t++) {
            x.ahead(t, 8);
        }
        sureIs(x, 4, 1, 32);
        sureIs(x, 0, 3, 32);
        // each SIGN has one SET: all is known then
        sureIs(only("c0", LATE, 5), 0, 1, 1);
        sureIs(only("c0", LATE, 5), 4, 11, 16);
        sureIs(only("c0", 0, 0), 4, 1, 1);
        sureIs(only("m0", LATE, 8), 0, 1, 2);
        Due.is("sure(-1, 0)", x.sure(-1, 0), Due.BAD);
        Due.is("sure(10, 0)", x.sure(10, 0), Due.BAD);
        Due.is("sure(0, -1)", x.sure(0, -1), Due.BAD);
        Due.is("sure(0, 2)", x.sure(0, 2), Due.BAD);
    }

    private static void sureOfLikeliest() {
        Due.says("of the ODDS that the likeliest SET has then");
        // PRESSLESS and STARVED by a fourth each: 9 none, 3 and 3, 1 both, of 16
        ColdMotor x = only("c0", 5, 4);
        sureIs(x, 4, 9, 16);
        // it runs with none; else nothing, of which 3 are the likeliest
        sureIs(x, 0, 3, 4);
        x.see(0, 0);
        sureIs(x, 0, 3, 7);
        // a spoon feeds the STARVED one
        x.see(7, 0);
        sureIs(x, 0, 6, 7);
    }

    private static void bestOfOneTwoThree() {
        Due.says("BEST of k (1 to 3): the ACT by which it RUNS within k ACTS most likely");
        ColdMotor x = only("c0;b9;m17", LATE + 2, 8);
        Due.is("best(0, 0)", x.best(0, 0), Due.BAD);
        Due.is("best(4, 0)", x.best(4, 0), Due.BAD);
        Due.is("best(-1, 0)", x.best(-1, 0), Due.BAD);
        Due.is("best(1, -1)", x.best(1, -1), Due.BAD);
        Due.is("best(1, 3)", x.best(1, 3), Due.BAD);
        bestIs(x, 1, 0, 1, 4);
        // to FILE or to SET ahead of a turn: like ones
        bestIs(x, 2, 8, 1, 2);
        bestIs(x, 3, 0, 3, 4);
        // FROZEN for sure, one turn from thawing
        ColdMotor y = only("c0;m7", 16, 16);
        for (int i = 0; i < 5; i++) {
            y.see(0, 0);
        }
        bestIs(y, 1, 0, 0, 1);
        bestIs(y, 2, 0, 1, 1);
        // there is LIGHT for two turns: a third act could not be done
        bestIs(y, 3, 0, 1, 1);
    }

    private static void bestByWhatIsSeenThen() {
        Due.says("each later one being chosen by what is seen then");
        // a turn tells LATE (a cough) from SPARKLESS (nothing); LIGHT is there for one of the works
        bestIs(only("c0;b9;m17", LATE + 2, 8), 3, 0, 3, 4);
        // with one minute less there is none for the time behind a turn
        bestIs(only("c0;b9;m16", LATE + 2, 8), 3, 0, 1, 2);
        // with 27 not for both works and a turn, with 28 yes
        bestIs(only("c0;b9;m27", LATE + 2, 8), 3, 0, 3, 4);
        bestIs(only("c0;b9;m28", LATE + 2, 8), 3, 8, 1, 1);
    }

    private static void bestOfAllSets() {
        Due.says("BEST of k (1 to 3)");
        // all 32 are LEFT, and to PRIME or to WAIT shows the same with each of them
        ColdMotor x = Due.motor("m3");
        Due.is("left()", x.left(), 32);
        Due.is("parts(7)", x.parts(7), 1);
        bestIs(x, 1, 1, 371293, 1 << 20);
        // a spoon serves the STARVED and the FROZEN: 13 by 13 by 13 are not PRESSLESS, SPARKLESS, LATE
        bestIs(x, 2, 7, 2197, 4096);
        bestIs(x, 3, 4, 2197, 4096);
        Due.is("left()", x.left(), 32);
    }

    private static void bestOfLikeOnes() {
        Due.says("of like ones the least");
        bestIs(only("c0", 0, 0), 1, 0, 1, 1);
        bestIs(only("c0;d2", 0, 0), 1, 1, 1, 1);
        bestIs(only("c0;d0", 0, 0), 1, 2, 1, 1);
        bestIs(only("c4;d0", 0, 0), 1, 3, 1, 1);
        // no turn alone does it, but by the second it may: the first is the least that leaves it so
        bestIs(only("c0;d9;m1", 0, 0), 2, 0, 1, 1);
        bestIs(only("c0;b1;m99;d0", 0, 0), 2, 2, 1, 1);
        // PRIME: 7; with three, to WAIT comes ahead of it
        bestIs(only("c9;d0;b2;m99", 0, 0), 2, 7, 1, 1);
        bestIs(only("c9;d0;b2;m99", 0, 0), 3, 4, 1, 1);
        bestIs(only("c0;b1;m99", LATE, 16), 2, 9, 1, 1);
    }

    private static void bestOfNone() {
        Due.says("of like ones the least; that CHANCE");
        for (int k = 1; k <= 3; k++) {
            bestIs(only("p0", 0, 0), k, 0, 0, 1);
            bestIs(only("b0", 0, 0), k, 0, 0, 1);
            bestIs(only("m0", 0, 0), k, 0, 0, 1);
        }
    }

    private static void bestWhenItRuns() {
        Due.says("(1, if it RUNS already)");
        ColdMotor x = Due.motor("c0");
        x.see(0, 2);
        for (int k = 1; k <= 3; k++) {
            bestIs(x, k, 0, 1, 1);
        }
        x.back();
        bestIs(x, 1, 0, 371293, 1 << 20);
        // by the least of all odds, too
        for (int t = 0; t < 5; t++) {
            x.ahead(t, 15);
        }
        x.see(0, 2);
        for (int k = 1; k <= 3; k++) {
            bestIs(x, k, 0, 1, 1);
        }
        // with all LIGHT used up, too
        ColdMotor y = Due.motor("c0;m1;b1");
        y.see(0, 2);
        for (int k = 1; k <= 3; k++) {
            bestIs(y, k, 0, 1, 1);
        }
        // it ran, but that was not seen so: none is LEFT
        ColdMotor z = only("c0", 0, 0);
        z.see(0, 0);
        Due.is("best(1, 2)", z.best(1, 2), Due.NOT);
    }

    private static void notAny() {
        Due.says("NOT, where no SET that is LEFT has any.");
        ColdMotor x = only("c0", 0, 0);
        // LATE alone agrees with a cough, and has no odds
        x.see(0, 1);
        for (int what = 0; what < 2; what++) {
            Due.is("chance(9, 6, " + what + ")", x.chance(9, 6, what), Due.NOT);
            Due.is("sure(9, " + what + ")", x.sure(9, what), Due.NOT);
        }
        Due.is("parts(9)", x.parts(9), -3);
        for (int k = 1; k <= 3; k++) {
            for (int what = 0; what < 3; what++) {
                Due.is("best(" + k + ", " + what + ")", x.best(k, what), Due.NOT);
            }
        }
        Due.is("BAD ahead of NOT", x.chance(10, 0, 0), Due.BAD);
        Due.is("BAD ahead of NOT", x.chance(0, 7, 0), Due.BAD);
        Due.is("BAD ahead of NOT", x.chance(0, 0, 2), Due.BAD);
        Due.is("BAD ahead of NOT", x.parts(10), -2);
        Due.is("BAD ahead of NOT", x.sure(10, 0), Due.BAD);
        Due.is("BAD ahead of NOT", x.sure(0, 2), Due.BAD);
        Due.is("BAD ahead of NOT", x.best(4, 0), Due.BAD);
        Due.is("BAD ahead of NOT", x.best(1, 3), Due.BAD);
        x.ahead(3, 1);
        chanceIs(x, 9, 0, 1, 1);
        bestIs(x, 2, 9, 1, 1);
    }
}
