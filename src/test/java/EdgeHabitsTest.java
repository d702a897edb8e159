/** Edges of the HABIT, of WORK and of DROWNED: a test for each sentence, promises 19 to 22. */
public final class EdgeHabitsTest {
    private static final int SPARKLESS = 2, STARVED = 4, LATE = 8, FROZEN = 16;

    public static void main(String[] args) {
        doneInThatOrder();
        untilItRuns();
        whatCannotBeDone();
        ninetyActs();
        byOddsAhead();
        fromTheFirstState();
        habitRefusals();
        hasIt();
        hasRefusals();
        greatestChance();
        workOfLikeOnes();
        workWithoutAChance();
        workRefusals();
        drownedAtSix();
        drownedWithoutMore();
        drownedWhenItRuns();
        drownedLate();
        drownedFromTheFirstState();
        Due.end("EdgeHabitsTest");
    }

    private static ColdMotor only(String motor, String habit, int set, int v) {
        ColdMotor x = Due.motor(motor);
        Due.retype(x, 1, habit);
        for (int t = 0; t < 5; t++) {
            x.ahead(t, (set >> t & 1) == 1 ? v : 0);
        }
        return x;
    }

    private static void habitIs(ColdMotor x, long above, long below, long mean, long by) {
        Due.fraction("habit(0)", x.habit(0, 0), x.habit(0, 1), above, below);
        Due.fraction("habit(1)", x.habit(1, 0), x.habit(1, 1), mean, by);
    }

    private static void workIs(ColdMotor x, int trouble, long above, long below) {
        Due.is("work(2)", x.work(2), trouble);
        Due.fraction("work", x.work(0), x.work(1), above, below);
    }

    private static void doneInThatOrder() {
        Due.says("From the first STATE on all is done in that order");
        habitIs(only("c0;b1", "9,0", LATE, 16), 1, 1, 2, 1);
        habitIs(only("c0;b1", "0,9", LATE, 16), 0, 1, 2, 1);
        habitIs(only("c0;b1", "0,9,0", LATE, 16), 0, 1, 2, 1);
        habitIs(only("c0;b2", "0,9,0", LATE, 16), 1, 1, 3, 1);
    }

    private static void untilItRuns() {
        Due.says("until it RUNS");
        habitIs(only("c0", "0", 0, 0), 1, 1, 1, 1);
        habitIs(only("c0", "0,0", 0, 0), 1, 1, 1, 1);
        habitIs(only("c0", "0*9,9*9,4*9", 0, 0), 1, 1, 1, 1);
        habitIs(only("c0", "7,6,0,4,5", 0, 0), 1, 1, 3, 1);
        // it runs by the last of all
        habitIs(only("c0;p4", "0*3", 0, 0), 0, 1, 3, 1);
        habitIs(only("c0;p4", "0*4", 0, 0), 1, 1, 4, 1);
        habitIs(only("c0;p4", "0*5", 0, 0), 1, 1, 4, 1);
        habitIs(only("c0", "", 0, 0), 0, 1, 0, 1);
    }

    private static void whatCannotBeDone() {
        Due.says("(what cannot be done is left out)");
        // 15 MINUTES and a turn
        habitIs(only("c0;m15", "9,0", LATE, 16), 0, 1, 1, 1);
        habitIs(only("c0;m16", "9,0", LATE, 16), 1, 1, 2, 1);
        // no LIGHT to SET, but for what is behind it
        habitIs(only("c0;m14", "9,8,0", LATE, 8), 1, 2, 2, 1);
        habitIs(only("c0;m0", "0,4,5,6,7,8,9", 0, 0), 0, 1, 0, 1);
        habitIs(only("c0;b0;m99", "0*9,7,0*9", 0, 0), 0, 1, 1, 1);
        // 1 of BATTERY by waiting is enough for a turn
        habitIs(only("c0;b1;d3;m99", "0,0,4,0", 0, 0), 0, 1, 3, 1);
    }

    private static void ninetyActs() {
        Due.says("A HABIT is a text of up to 40 bytes");
        String nine = "7*9,".repeat(9);
        ColdMotor x = only("c0;m99", nine + "7*9", 0, 0);
        Due.is("count(6)", x.count(6), 90);
        // 99 MINUTES are 49 spoons
        habitIs(x, 0, 1, 49, 1);
        // the last MINUTE is for a turn, and the spoon is full
        habitIs(only("d0;c0;m99", nine + "0*9", 0, 0), 1, 1, 50, 1);
        // nine turns in vain, five times the time set, the others left out, then it runs by one
        String sets = "9*9,".repeat(8);
        habitIs(only("d0;c0;b30;m95", "0*9," + sets + "3*9", 0, 0), 1, 1, 15, 1);
        // six times takes the last of the LIGHT
        habitIs(only("d0;c0;b30;m99", "0*9," + sets + "3*9", 0, 0), 0, 1, 15, 1);
    }

    private static void byOddsAhead() {
        Due.says("by ODDS ahead: the CHANCE that it RUNS; the MEAN of how many ACTS are done");
        for (int v = 0; v <= 16; v++) {
            ColdMotor x = only("c0", "0,9,0", LATE, v);
            Due.is("chance above", x.habit(0, 0), 1);
            // one act, or three: (16 - v) and 3 v by 16
            int sum = 16 + 2 * v;
            int common = v == 0 || v == 8 || v == 16 ? 16 : v % 4 == 0 ? 8 : v % 2 == 0 ? 4 : 2;
            Due.fraction("mean at " + v, x.habit(1, 0), x.habit(1, 1), sum / common, 16 / common);
        }
        ColdMotor x = only("c0", "0", LATE, 4);
        x.see(0, 1);
        habitIs(x, 3, 4, 1, 1);
        x.see(4, 6);
        Due.is("none is LEFT", x.left(), 0);
        habitIs(x, 3, 4, 1, 1);
        workIs(x, 3, 1, 1);
    }

    private static void fromTheFirstState() {
        Due.says("From the first STATE on");
        ColdMotor x = only("c0;b1;m1", "0", 0, 0);
        x.see(0, 2);
        habitIs(x, 1, 1, 1, 1);
        Due.is("has(0)", x.has(0), 1);
        // another MOTOR is another first STATE
        Due.retype(x, 0, "c0;b0");
        habitIs(x, 0, 1, 0, 1);
        Due.retype(x, 0, "c0;b1;");
        // a FAULT of the MOTOR is none of the HABIT's: with COLD 4 the mix is 3, a cough
        habitIs(x, 0, 1, 1, 1);
    }

    private static void habitRefusals() {
        Due.says("BAD; NOT: a FAULT. (A refusal -x is the least long and x more.)");
        ColdMotor x = new ColdMotor();
        for (int round = 0; round < 2; round++) {
            Due.is("habit(-1, 0)", x.habit(-1, 0), Due.BAD);
            Due.is("habit(2, 0)", x.habit(2, 0), Due.BAD);
            Due.is("habit(0, -1)", x.habit(0, -1), Due.BAD);
            Due.is("habit(0, 2)", x.habit(0, 2), Due.BAD);
            Due.is("habit(1, 2)", x.habit(1, 2), Due.BAD);
            // with a FAULT BAD is the first that fits
            x.type(1, '*');
        }
        for (int which = 0; which < 2; which++) {
            for (int what = 0; what < 2; what++) {
                Due.is("habit(" + which + ", " + what + ")", x.habit(which, what), Due.NOT);
            }
        }
        Due.is("BAD is the least long and 2 more", Due.BAD, Long.MIN_VALUE + 2);
        Due.is("NOT is the least long and 3 more", Due.NOT, Long.MIN_VALUE + 3);
    }

    private static void hasIt() {
        Due.says("HAS IT: a SET with which it RUNS so.");
        ColdMotor x = Due.motor("c0");
        Due.is("of none: has(NONE)", x.has(-1), 0);
        Due.retype(x, 1, "8,9,6,7,0");
        for (int set = 0; set < 32; set++) {
            Due.is("has(" + set + ")", x.has(set), 1 - set % 2);
        }
        Due.is("has(NONE)", x.has(-1), 16);
        // PRESS 9 is 5 with any: all have it
        Due.retype(x, 0, "c0;p9");
        Due.is("all have it", x.has(-1), 32);
        Due.is("has(31)", x.has(31), 1);
        habitIs(x, 1, 1, 5, 1);
        workIs(x, 0, 1, 1);
        Due.retype(x, 1, "0");
        Due.is("PRESSLESS runs, too", x.has(-1), 2);
        Due.is("has(1)", x.has(1), 1);
        Due.is("has(2)", x.has(2), 0);
        Due.retype(x, 0, "c0;p9;b0");
        Due.is("none has it", x.has(-1), 0);
    }

    private static void hasRefusals() {
        Due.says("how many do (set = NONE). BAD; NOT: a FAULT.");
        ColdMotor x = new ColdMotor();
        Due.is("has(-2)", x.has(-2), -2);
        Due.is("has(32)", x.has(32), -2);
        Due.is("has(-1)", x.has(-1), 0);
        Due.is("has(0)", x.has(0), 0);
        Due.is("has(31)", x.has(31), 0);
        Due.retype(x, 1, "0,");
        Due.is("has(-2) with a FAULT", x.has(-2), -2);
        Due.is("has(32) with a FAULT", x.has(32), -2);
        Due.is("has(-1) with a FAULT", x.has(-1), -3);
        Due.is("has(0) with a FAULT", x.has(0), -3);
        Due.is("has(31) with a FAULT", x.has(31), -3);
    }

    private static void greatestChance() {
        Due.says("WORK: the TROUBLE that, if it was never there, gives the HABIT the greatest CHANCE");
        for (int t = 0; t < 5; t++) {
            ColdMotor x = Due.motor("c0");
            Due.retype(x, 1, "0");
            for (int other = 0; other < 5; other++) {
                x.ahead(other, other == t ? 9 : 8);
            }
            workIs(x, t, 1, 16);
            x.ahead(t, 16);
            workIs(x, t, 1, 16);
            Due.is("its CHANCE is not the HABIT's own", x.habit(0, 0), 0);
        }
    }

    private static void workOfLikeOnes() {
        Due.says("of like ones the least; that CHANCE");
        ColdMotor x = Due.motor("c0");
        Due.retype(x, 1, "0");
        workIs(x, 0, 28561, 65536);
        x.ahead(0, 2);
        workIs(x, 1, 14L * 13 * 13 * 13 / 2, 32768);
        x.ahead(4, 4);
        x.ahead(3, 4);
        workIs(x, 3, 14L * 13 * 13 * 12 / 8, 8192);
        // none of them is there: all alike
        workIs(only("c0", "0", 0, 0), 0, 1, 1);
        // it cannot be helped by what does no harm
        workIs(only("c0;p9", "0", 1, 16), 0, 1, 1);
        workIs(only("c0", "6,0", FROZEN, 16), 0, 1, 1);
        workIs(only("c0", "9,0", LATE, 16), 0, 1, 1);
    }

    private static void workWithoutAChance() {
        Due.says("gives the HABIT the greatest CHANCE");
        workIs(new ColdMotor(), 0, 0, 1);
        workIs(only("c0", "0", LATE + STARVED, 16), 0, 0, 1);
        workIs(only("c0", "0", LATE, 16), 3, 1, 1);
        workIs(only("c0;m0", "0", LATE, 16), 0, 0, 1);
    }

    private static void workRefusals() {
        Due.says("BAD; NOT: a FAULT. (A refusal -x is the least long and x more.)");
        ColdMotor x = new ColdMotor();
        for (int round = 0; round < 2; round++) {
            Due.is("work(-1)", x.work(-1), Due.BAD);
            Due.is("work(3)", x.work(3), Due.BAD);
            x.type(1, 255);
        }
        for (int what = 0; what < 3; what++) {
            Due.is("work(" + what + ")", x.work(what), Due.NOT);
        }
    }

    private static void drownedIs(String text, int set, int choke, int want) {
        Due.is("drowned(" + set + ", " + choke + ") of " + text, Due.motor(text).drowned(set, choke), want);
    }

    private static void drownedAtSix() {
        Due.says("after how many TURNS from the first STATE on WET is 6 or more");
        // by 6 at once; by 5 and 5; by 4 and 4; by 3 and 3; by 2 three times; by 1 six times
        drownedIs("c0;d9", 0, 3, 1);
        drownedIs("c0;d8", 0, 3, 2);
        drownedIs("c0;d9", 0, 2, 2);
        drownedIs("c0;d8", 0, 2, 2);
        drownedIs("c0;d9", 0, 1, 3);
        drownedIs("c0;d8", 0, 1, 6);
        Due.is("drowned(-1, 0)", new ColdMotor().drowned(-1, 0), -2);
        Due.is("drowned(32, 0)", new ColdMotor().drowned(32, 0), -2);
        Due.is("drowned(0, -1)", new ColdMotor().drowned(0, -1), -2);
        Due.is("drowned(0, 4)", new ColdMotor().drowned(0, 4), -2);
        Due.is("drowned(31, 3)", new ColdMotor().drowned(31, 3), -1);
    }

    private static void drownedWithoutMore() {
        Due.says("NONE: it RUNS, or no more can be done ahead.");
        drownedIs("c0;d9;b1;m1", 0, 3, 1);
        drownedIs("c0;d9;b0", 0, 3, -1);
        drownedIs("c0;d9;m0", 0, 3, -1);
        drownedIs("c0;d8;b1", 0, 3, -1);
        drownedIs("c0;d8;b2", 0, 3, 2);
        drownedIs("c0;d8;m1", 0, 3, -1);
        drownedIs("c0;d8;m2", 0, 3, 2);
        drownedIs("c0;d8;b5", 0, 1, -1);
        drownedIs("c0;d8;b6", 0, 1, 6);
        drownedIs("c0;s0;b30;m99", 0, 0, -1);
        drownedIs("c0;d9;b30;m99", STARVED, 3, -1);
    }

    private static void drownedWhenItRuns() {
        Due.says("NONE: it RUNS");
        drownedIs("c0", 0, 0, -1);
        // it runs when it is warm: three coughs are 6, a sixth of which is 1
        drownedIs("c0;p4", 0, 0, -1);
        drownedIs("c4;d9", 0, 3, -1);
        // with no SPARK it goes on and drowns by what comes off the wall: 9, 10, 11, 12
        drownedIs("c4;d9", SPARKLESS, 3, 4);
        drownedIs("c4;d9;t20", 0, 3, 4);
    }

    private static void drownedLate() {
        Due.says("after how many TURNS");
        // 10 drawn, 4 laid; the wall has 4, 7, 10, 12, 13, 14, 15, 16: from the ninth on by 1
        drownedIs("d4;c4;s0;b30;m99", 0, 3, 14);
        drownedIs("d4;c4;s0;b14;m14", 0, 3, 14);
        drownedIs("d4;c4;s0;b13;m14", 0, 3, -1);
        drownedIs("d4;c4;s0;b14;m13", 0, 3, -1);
        // FROZEN: six turns more
        drownedIs("d4;c4;s0;b20;m20", FROZEN, 3, 20);
        drownedIs("d4;c4;s0;b19;m20", FROZEN, 3, -1);
        drownedIs("d4;c4;s0;b20;m19", FROZEN, 3, -1);
    }

    private static void drownedFromTheFirstState() {
        Due.says("from the first STATE on");
        ColdMotor x = Due.motor("c0;d8;b6");
        x.see(1, 0);
        x.see(1, 0);
        x.see(5, 0);
        Due.is("drowned(0, 1)", x.drowned(0, 1), 6);
        Due.is("drowned(0, 1) again", x.drowned(0, 1), 6);
        Due.is("it changes no STATE", x.state(0, 0), 4);
        Due.retype(x, 1, ",");
        Due.is("a HABIT's FAULT is nothing to it", x.drowned(0, 1), 6);
        x.see(4, 6);
        Due.is("nor is that none is LEFT", x.drowned(0, 1), 6);
    }
}
