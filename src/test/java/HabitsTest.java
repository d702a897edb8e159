/** Promises 19 to 22: habit, has, work, drowned. */
public final class HabitsTest {
    public static void main(String[] args) {
        habit();
        habitThatCannotBeDone();
        has();
        work();
        drowned();
        refusals();
        Due.end("HabitsTest");
    }

    private static void habitIs(ColdMotor x, long above, long below, long mean, long by) {
        Due.fraction("19: chance", x.habit(0, 0), x.habit(0, 1), above, below);
        Due.fraction("19: mean", x.habit(1, 0), x.habit(1, 1), mean, by);
    }

    /** Only the trouble is possible, by so many sixteenths. */
    private static ColdMotor with(String motor, String habit, int trouble, int sixteenths) {
        ColdMotor x = Due.motor(motor);
        Due.retype(x, 1, habit);
        for (int t = 0; t < 5; t++) {
            x.ahead(t, t == trouble ? sixteenths : 0);
        }
        return x;
    }

    private static void habit() {
        habitIs(with("c0", "", 3, 4), 0, 1, 0, 1);
        habitIs(with("c0", "0", 3, 4), 3, 4, 1, 1);
        // without LATE one act, with it three: 3/4 and 9/4
        habitIs(with("c0", "0,9,0", 3, 4), 1, 1, 3, 2);
        habitIs(with("c0", "0*2,9,0", 3, 4), 1, 1, 7, 4);
        habitIs(with("c0", "9,0", 3, 4), 1, 1, 2, 1);
        habitIs(with("c0", "0*9", 3, 16), 0, 1, 9, 1);
        habitIs(with("c0", "0*9", 3, 0), 1, 1, 1, 1);
        habitIs(with("c0", "6,0", 4, 1), 1, 1, 2, 1);
        ColdMotor x = with("c0", "0", 3, 4);
        x.see(0, 1);
        x.see(9, 0);
        habitIs(x, 3, 4, 1, 1);
        x.see(4, 6);
        habitIs(x, 3, 4, 1, 1);
        x.ahead(3, 8);
        habitIs(x, 1, 2, 1, 1);
        Due.retype(x, 0, "c0;m0");
        habitIs(x, 0, 1, 0, 1);
        Due.retype(x, 0, "x");
        habitIs(x, 0, 1, 1, 1);
    }

    private static void habitThatCannotBeDone() {
        // 12 of light: to file, and then nothing but the left out
        habitIs(with("c0;m12", "8,9,0", 3, 4), 0, 1, 1, 1);
        // to set is left out, the turn behind it is done
        habitIs(with("c0;m13", "8,9,0", 3, 4), 3, 4, 2, 1);
        habitIs(with("c0;b3;m99", "1*9,7", 3, 16), 0, 1, 4, 1);
        habitIs(with("c0;m99;b30", "1*9,1*9,1*9,1*9,1*9,1*9,1*9,1*9,1*9,1*9", 3, 16), 0, 1, 30, 1);
        habitIs(with("s0;m99;b30;c0", "7*9,7*9,7*9,7*9,7*9,7*9,7*9,7*9,7*9,1*9", 0, 0), 0, 1, 50, 1);
    }

    private static void has() {
        ColdMotor x = Due.motor("c0");
        Due.retype(x, 1, "0");
        for (int set = 0; set < 32; set++) {
            Due.is("20: has(" + set + ")", x.has(set), set == 0 ? 1 : 0);
        }
        Due.is("20: has(NONE)", x.has(-1), 1);
        // behind filing, setting, heating and with a spoon all but the PRESSLESS run
        Due.retype(x, 1, "8,9,6,7,0");
        for (int set = 0; set < 32; set++) {
            Due.is("20: has(" + set + ")", x.has(set), set % 2 == 0 ? 1 : 0);
        }
        Due.is("20: has(NONE)", x.has(-1), 16);
        for (int t = 0; t < 5; t++) {
            x.ahead(t, 16);
        }
        Due.is("20: has(NONE), whatever the odds", x.has(-1), 16);
        x.see(0, 2);
        Due.is("20: has(NONE), whatever was seen", x.has(-1), 16);
        x.wipe(1);
        Due.is("20: nothing is done", x.has(-1), 0);
        Due.is("20: nothing is done", x.has(0), 0);
    }

    private static void workIs(ColdMotor x, int trouble, long above, long below) {
        Due.is("21: work(2)", x.work(2), trouble);
        Due.fraction("21: work", x.work(0), x.work(1), above, below);
    }

    private static void work() {
        ColdMotor x = Due.motor("c0");
        Due.retype(x, 1, "0");
        // all are alike: the least
        workIs(x, 0, 28561, 65536);
        x.ahead(2, 4);
        workIs(x, 2, 28561, 65536);
        x.ahead(4, 8);
        // 13 by 13 by 12 by 13, of 16 each
        workIs(x, 4, 6591, 16384);
        x.ahead(3, 16);
        // 13 by 13 by 12 by 8
        workIs(x, 3, 507, 2048);
        x.ahead(0, 16);
        workIs(x, 0, 0, 1);
        x.wipe(1);
        workIs(x, 0, 0, 1);
        Due.retype(x, 1, "9,0");
        x.ahead(0, 0);
        // LATE does no harm to it: 16 by 13 by 12
        workIs(x, 4, 39, 64);
    }

    private static void drownedIs(String text, int set, int choke, int want) {
        ColdMotor x = Due.motor(text);
        x.see(3, 0);
        Due.is("22: drowned(" + set + ", " + choke + ") of " + text, x.drowned(set, choke), want);
    }

    private static void drowned() {
        drownedIs("c0;d9", 0, 3, 1);
        drownedIs("c0;d8", 0, 3, 2);
        drownedIs("c0;d9", 0, 2, 2);
        drownedIs("c0;d9", 0, 1, 3);
        drownedIs("c0;d8", 0, 1, 6);
        drownedIs("c0;d9", 0, 0, -1);
        drownedIs("c0;d9;s0", 0, 0, -1);
        drownedIs("c0;d9", 4, 3, -1);
        drownedIs("c0;d8;m5", 0, 1, -1);
        drownedIs("c0;d8;m6", 0, 1, 6);
        drownedIs("c0;d8;b5", 0, 1, -1);
        drownedIs("c0;d8;b6", 0, 1, 6);
        // FROZEN: six turns warm it, then it draws
        drownedIs("c0;d9", 16, 3, 7);
        // the wall gives it back: 15, 6 laid, mix 9: it runs; without spark it goes on to 10, 11, 12
        drownedIs("c4;d9", 0, 3, -1);
        drownedIs("c4;d9;s0", 0, 3, 4);
    }

    private static void refusals() {
        ColdMotor x = new ColdMotor();
        for (int round = 0; round < 2; round++) {
            int[][] habits = {{-1, 0}, {2, 0}, {0, -1}, {0, 2}};
            for (int[] b : habits) {
                Due.is("19: BAD", x.habit(b[0], b[1]), Due.BAD);
            }
            int[] sets = {-2, 32, Integer.MIN_VALUE, Integer.MAX_VALUE};
            for (int set : sets) {
                Due.is("20: BAD", x.has(set), -2);
            }
            Due.is("21: BAD", x.work(-1), Due.BAD);
            Due.is("21: BAD", x.work(3), Due.BAD);
            int[][] drowns = {{-1, 0}, {32, 0}, {0, -1}, {0, 4}};
            for (int[] b : drowns) {
                Due.is("22: BAD", x.drowned(b[0], b[1]), -2);
            }
            x.type(1, '1');
            x.type(1, ',');
        }
        for (int what = 0; what < 2; what++) {
            Due.is("19: NOT", x.habit(0, what), Due.NOT);
            Due.is("19: NOT", x.habit(1, what), Due.NOT);
        }
        Due.is("20: NOT", x.has(-1), -3);
        Due.is("20: NOT", x.has(0), -3);
        for (int what = 0; what < 3; what++) {
            Due.is("21: NOT", x.work(what), Due.NOT);
        }
        Due.is("22: a habit's fault is nothing to it", x.drowned(0, 3), -1);
    }
}
