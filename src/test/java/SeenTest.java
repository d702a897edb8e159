/** Promises 6 to 14: ahead, see, read, back, left, odds, trouble, state, sign. */
public final class SeenTest {
    private static final int SPARKLESS = 2, STARVED = 4, LATE = 8, FROZEN = 16;

    public static void main(String[] args) {
        ahead();
        see();
        read();
        back();
        left();
        odds();
        trouble();
        stateOfTurns();
        stateOfOtherActs();
        stateRefusals();
        signOfMix();
        signOfSparkAndPress();
        signOfTime();
        signWhenNothingIsDone();
        Due.end("SeenTest");
    }

    private static void ahead() {
        ColdMotor x = new ColdMotor();
        for (int t = 0; t < 5; t++) {
            Due.is("6: ahead(" + t + ", 16)", x.ahead(t, 16), 3);
            Due.is("6: ahead(" + t + ", 0)", x.ahead(t, 0), 16);
            Due.is("6: ahead(" + t + ", 17)", x.ahead(t, 17), -2);
            Due.is("6: ahead(" + t + ", -1)", x.ahead(t, -1), -2);
            Due.is("6: ahead(" + t + ", " + t + ")", x.ahead(t, t), 0);
        }
        Due.is("6: ahead(-1, 3)", x.ahead(-1, 3), -2);
        Due.is("6: ahead(5, 3)", x.ahead(5, 3), -2);
        Due.is("6: together", x.count(5), 10);
        // 16 by 15 by 14 by 13 by 12, none of them there
        Due.fraction("6: odds(0)", x.odds(0, 0), x.odds(0, 1), 4095, 8192);
    }

    private static void see() {
        ColdMotor x = new ColdMotor();
        int[][] bad = {{-1, 0}, {10, 0}, {0, -1}, {0, 7}, {Integer.MIN_VALUE, 0}, {0, Integer.MAX_VALUE}};
        for (int[] b : bad) {
            Due.is("7: see(" + b[0] + ", " + b[1] + ")", x.see(b[0], b[1]), -2);
        }
        Due.is("7: none is seen", x.count(2), 0);
        for (int i = 0; i < 24; i++) {
            Due.is("7: see", x.see(i % 10, i % 7), i + 1);
        }
        Due.is("7: the 25th", x.see(0, 0), -4);
        Due.is("7: BAD ahead of FULL", x.see(10, 0), -2);
        Due.is("7: BAD ahead of FULL", x.see(0, 7), -2);
        Due.is("7: count(2)", x.count(2), 24);
    }

    private static void read() {
        ColdMotor x = new ColdMotor();
        Due.is("8: read(-1)", x.read(-1), -2);
        Due.is("8: read(4)", x.read(4), -2);
        Due.is("8: BAD is no finding", x.count(8), 0);
        Due.is("8: read(3) of a lost one", x.read(3), -11);
        Due.is("8: count(8)", x.count(8), 1);
        for (int form = 0; form < 3; form++) {
            Due.is("8: sheet", x.sheet(form, form, 7), 7);
            int[] items = {6, 0, 1, 2, 10, 0, 4};
            for (int i = 0; i < 7; i++) {
                x.put(form, form, i, items[i]);
            }
            Due.is("8: up to the first that is refused", x.read(form), 2);
            Due.is("8: count(2)", x.count(2), 2 * form + 2);
        }
        x.put(0, 0, 4, 5);
        Due.is("8: the odd item is not read", x.read(0), 3);
        Due.is("8: count(2)", x.count(2), 9);
        x.put(0, 0, 1, -1);
        Due.is("8: a sign that is refused at first", x.read(0), 0);
        x.sheet(1, 2, 0);
        Due.is("8: an empty one", x.read(1), 0);
        x.sheet(1, 2, 1);
        Due.is("8: of one item", x.read(1), 0);
        x.sheet(1, 2, 2);
        Due.is("8: of two items", x.read(1), 1);
        x.back();
        x.sheet(1, 1, 48);
        Due.is("8: until it is full", x.read(1), 15);
        Due.is("8: count(2)", x.count(2), 24);
        Due.is("8: when it is full", x.read(1), 0);
    }

    private static void back() {
        ColdMotor x = new ColdMotor();
        Due.is("9: back()", x.back(), -3);
        x.see(1, 1);
        x.see(6, 0);
        Due.is("9: warm", x.state(0, 4), 0);
        Due.is("9: back()", x.back(), 1);
        Due.is("9: left", x.left(), 1);
        Due.is("9: back()", x.back(), 0);
        Due.is("9: left", x.left(), 32);
        Due.is("9: back()", x.back(), -3);
    }

    private static void left() {
        ColdMotor x = new ColdMotor();
        x.see(1, 2);
        Due.is("10: it ran: with no trouble alone", x.left(), 1);
        x.back();
        x.see(1, 1);
        Due.is("10: it coughed: LATE alone", x.left(), 1);
        x.back();
        x.see(1, 0);
        Due.is("10: nothing: all the others", x.left(), 30);
        x.ahead(2, 0);
        Due.is("10: if it was never STARVED", x.left(), 14);
        x.ahead(4, 16);
        Due.is("10: if it was always FROZEN", x.left(), 8);
        x.back();
        x.see(4, 1);
        Due.is("10: a sign that cannot be", x.left(), 0);
        x.back();
        x.see(5, 6);
        Due.is("10: another motor", x.left(), 8);
        for (int t = 0; t < 5; t++) {
            x.ahead(t, 15);
        }
        Due.is("10: the least odds are odds", x.left(), 32);
        Due.retype(x, 0, "m7");
        Due.is("10: the text is read at the time of the call", x.left(), 0);
    }

    private static void odds() {
        ColdMotor x = new ColdMotor();
        int[][] bad = {{-1, 0}, {32, 0}, {0, -1}, {0, 2}};
        for (int[] b : bad) {
            Due.is("11: odds(" + b[0] + ", " + b[1] + ")", x.odds(b[0], b[1]), Due.BAD);
        }
        x.ahead(0, 8);
        x.ahead(1, 8);
        x.ahead(2, 8);
        x.ahead(3, 8);
        x.ahead(4, 0);
        Due.fraction("11: of sixteen like ones", x.odds(15, 0), x.odds(15, 1), 1, 16);
        Due.fraction("11: never there", x.odds(16, 0), x.odds(16, 1), 0, 1);
        x.see(1, 1);
        Due.fraction("11: the one that is left", x.odds(8, 0), x.odds(8, 1), 1, 1);
        Due.fraction("11: one that is not left", x.odds(0, 0), x.odds(0, 1), 0, 1);
        x.see(4, 6);
        Due.is("11: none is left", x.odds(8, 0), Due.NOT);
        Due.is("11: none is left", x.odds(8, 1), Due.NOT);
        Due.is("11: BAD ahead of NOT", x.odds(32, 0), Due.BAD);
        Due.is("11: BAD ahead of NOT", x.odds(0, 2), Due.BAD);
    }

    private static void trouble() {
        ColdMotor x = new ColdMotor();
        int[][] bad = {{-1, 0}, {5, 0}, {0, -1}, {0, 2}};
        for (int[] b : bad) {
            Due.is("12: trouble(" + b[0] + ", " + b[1] + ")", x.trouble(b[0], b[1]), Due.BAD);
        }
        for (int t = 0; t < 5; t++) {
            Due.fraction("12: nothing seen", x.trouble(t, 0), x.trouble(t, 1), 3, 16);
        }
        x.see(1, 1);
        Due.fraction("12: LATE it is", x.trouble(3, 0), x.trouble(3, 1), 1, 1);
        Due.fraction("12: STARVED not", x.trouble(2, 0), x.trouble(2, 1), 0, 1);
        x.see(9, 0);
        Due.fraction("12: LATE it was at first", x.trouble(3, 0), x.trouble(3, 1), 1, 1);
        x.see(9, 3);
        Due.is("12: none is left", x.trouble(3, 0), Due.NOT);
        Due.is("12: BAD ahead of NOT", x.trouble(5, 0), Due.BAD);
        Due.is("12: BAD ahead of NOT", x.trouble(0, 2), Due.BAD);
    }

    private static void stateIs(String what, ColdMotor x, int set, int... want) {
        for (int i = 0; i < 8; i++) {
            Due.is("13: " + what + ": state(" + set + ", " + i + ")", x.state(set, i), want[i]);
        }
    }

    private static void stateOfTurns() {
        // draws 9 + 6 = 15, 13 laid, mix 2: nothing; then 13 / 4 = 3 off, mix 5, but spark is 0
        ColdMotor x = Due.motor("d9;c9;b30;m99;s0");
        x.see(3, 0);
        stateIs("a cold turn", x, 0, 28, 98, 13, 0, 1, 0, 0, 0);
        stateIs("a cold turn, starved", x, STARVED, 28, 98, 0, 0, 1, 0, 4, 0);
        stateIs("a cold turn, frozen", x, FROZEN, 28, 98, 0, 0, 1, 0, 16, 0);
        x.see(3, 0);
        // spark 0 and 26 / 8 = 3: a cough
        stateIs("the second", x, 0, 26, 97, 23, 0, 3, 0, 0, 0);
        stateIs("the second, sparkless", x, SPARKLESS, 26, 97, 23, 0, 2, 0, 2, 0);
        for (int i = 0; i < 20; i++) {
            x.see(3, 6);
        }
        // 30 of battery by 2 a turn: fifteen turns are done, the others not
        Due.is("13: battery is empty", x.state(0, 0), 0);
        Due.is("13: fifteen minutes", x.state(0, 1), 84);
        // the spark is enough for a cough in the second and the third
        Due.is("13: warm by 1 and by 2", x.state(0, 4), 17);
        Due.is("13: wall", x.state(0, 2), 52);
        // draws 15 with no cold: 6 a turn are too much
        ColdMotor y = Due.motor("d9;c0;b30;m99");
        for (int i = 1; i <= 24; i++) {
            y.see(3, 0);
            Due.is("13: wet", y.state(0, 3), Math.min(99, 6 * i));
            Due.is("13: warm", y.state(0, 4), Math.min(20, i));
            Due.is("13: wet, starved", y.state(STARVED, 3), 0);
        }
        Due.is("13: battery", y.state(0, 0), 6);
    }

    private static void stateOfOtherActs() {
        ColdMotor x = Due.motor("d9;c0;m99");
        x.see(3, 0);
        x.see(4, 0);
        // 12 of battery, 1 taken, 1 more
        stateIs("wait", x, 0, 12, 88, 0, 2, 0, 0, 0, 0);
        x.see(4, 0);
        stateIs("wait: none goes below 0, the battery not above", x, 0, 12, 78, 0, 0, 0, 0, 0, 0);
        x.see(7, 0);
        stateIs("prime", x, 0, 12, 76, 0, 0, 0, 5, 0, 0);
        x.see(7, 0);
        stateIs("prime again", x, 0, 12, 74, 0, 0, 0, 5, 0, 0);
        x.see(6, 0);
        stateIs("heat", x, 0, 12, 68, 0, 0, 6, 5, 0, 0);
        x.see(3, 0);
        // 15 and 5 of the spoon: 11 too much
        stateIs("turn with a full spoon", x, 0, 11, 67, 0, 11, 7, 0, 0, 0);
        x.see(5, 5);
        stateIs("dry", x, 0, 11, 59, 0, 0, 7, 0, 0, 0);
        x.see(8, 0);
        stateIs("file", x, 31, 11, 47, 0, 0, 7, 0, 29, 0);
        x.see(9, 0);
        stateIs("set", x, 31, 11, 32, 0, 0, 7, 0, 21, 0);
        x.see(6, 0);
        x.see(6, 0);
        x.see(6, 0);
        stateIs("heat: 20 at most", x, 0, 11, 14, 0, 0, 20, 0, 0, 0);
        x.see(9, 0);
        stateIs("no light for it", x, 8, 11, 14, 0, 0, 20, 0, 0, 0);
        ColdMotor z = Due.motor("c0;s0;m99");
        z.see(6, 0);
        z.see(0, 0);
        z.see(0, 0);
        z.see(0, 0);
        z.see(4, 0);
        stateIs("wait: 1 of warmth, 1 of battery", z, 0, 10, 80, 0, 0, 8, 0, 0, 0);
        ColdMotor y = new ColdMotor();
        y.see(1, 0);
        stateIs("it runs, whatever was seen", y, 0, 11, 59, 2, 0, 0, 0, 0, 1);
        y.see(1, 0);
        y.see(6, 0);
        stateIs("nothing is done then", y, 0, 11, 59, 2, 0, 0, 0, 0, 1);
    }

    private static void stateRefusals() {
        ColdMotor x = new ColdMotor();
        int[][] bad = {{-1, 0}, {32, 0}, {0, -1}, {0, 8}, {Integer.MAX_VALUE, 0}, {0, Integer.MIN_VALUE}};
        for (int[] b : bad) {
            Due.is("13: state(" + b[0] + ", " + b[1] + ")", x.state(b[0], b[1]), -2);
        }
        int[][] wrong = {{-1, 0}, {32, 0}, {0, -1}, {0, 10}};
        for (int[] b : wrong) {
            Due.is("14: sign(" + b[0] + ", " + b[1] + ")", x.sign(b[0], b[1]), -2);
        }
    }

    private static void signIs(String text, int set, int act, int want) {
        ColdMotor x = Due.motor(text);
        Due.is("14: sign(" + set + ", " + act + ") of " + text, x.sign(set, act), want);
        Due.is("14: it changes nothing", x.state(set, 1), x.motor(6));
    }

    private static void signOfMix() {
        int[] byMix = {0, 0, 0, 1, 2, 2, 2, 2, 2, 2};
        for (int mix = 0; mix < 10; mix++) {
            signIs("c0;d" + mix, 0, 0, byMix[mix]);
        }
        signIs("c0;d8", 0, 1, 1);
        signIs("c0;d9", 0, 1, 0);
        signIs("c0;d2", 0, 1, 2);
        signIs("c0;d0", 0, 2, 2);
        signIs("c0;d1", 0, 3, 2);
        signIs("c0;d4", STARVED, 0, 0);
        signIs("c0;d4", FROZEN, 0, 0);
        signIs("c5;d8", 0, 0, 2);
        signIs("c6;d8", 0, 0, 2);
        signIs("c7;d8", 0, 0, 1);
        ColdMotor x = new ColdMotor();
        x.see(7, 0);
        Due.is("14: starved with a full spoon: mix 5", x.sign(STARVED, 0), 2);
        x.see(6, 0);
        Due.is("14: frozen, but warm: mix 5 + 3", x.sign(FROZEN, 0), 2);
        x.see(4, 0);
        Due.is("14: frozen, warmth is 5: mix 5", x.sign(FROZEN, 3), 2);
        ColdMotor y = Due.motor("c9;d9;m99;b30");
        y.see(6, 0);
        y.see(3, 0);
        y.see(4, 0);
        y.see(4, 0);
        Due.is("14: frozen again: 3 off the wall alone", y.sign(FROZEN, 3), 1);
        Due.is("14: not frozen: 3 off the wall, and 2", y.sign(0, 3), 2);
        x.see(3, 2);
        Due.is("14: the wall shows that nothing was drawn", x.state(FROZEN, 2), 0);
    }

    private static void signOfSparkAndPress() {
        signIs("c0;b1;s2", 0, 0, 0);
        signIs("c0;b1;s3", 0, 0, 1);
        signIs("c0;b1;s4", 0, 0, 2);
        signIs("c0;b8;s3", 0, 0, 1);
        signIs("c0;b9;s3", 0, 0, 2);
        signIs("c0;b30;s1", 0, 0, 2);
        signIs("c0;b9;s8", SPARKLESS, 0, 2);
        signIs("c0;b9;s7", SPARKLESS, 0, 1);
        signIs("c0;b9;s6", SPARKLESS, 0, 0);
        // it is 5 less, also below 0: -5 and 3
        signIs("c0;b30;s0", SPARKLESS, 0, 0);
        signIs("c0;p3", 0, 0, 0);
        signIs("c0;p4", 0, 0, 1);
        signIs("c0;p5", 0, 0, 2);
        signIs("c0;p9", 1, 0, 2);
        signIs("c0;p8", 1, 0, 1);
        signIs("c0;p7", 1, 0, 0);
        ColdMotor x = Due.motor("c0;p4");
        x.see(6, 0);
        Due.is("14: warmth of 6 helps it", x.sign(0, 0), 2);
        x.see(4, 0);
        Due.is("14: warmth of 5 does not", x.sign(0, 0), 1);
        ColdMotor z = Due.motor("c0;d9;s5;b4");
        z.see(3, 0);
        Due.is("14: wet by 6 takes 2", z.sign(0, 0), 1);
        ColdMotor y = Due.motor("c0;d9;s5;b4");
        y.see(2, 0);
        Due.is("14: wet by 4 takes 1", y.sign(0, 0), 2);
        y.see(2, 0);
        Due.is("14: wet by 8 takes 2", y.sign(0, 0), 1);
    }

    private static void signOfTime() {
        signIs("c0;t6", 0, 0, 1);
        signIs("c0;t7", 0, 0, 2);
        signIs("c0;t13", 0, 0, 2);
        signIs("c0;t14", 0, 0, 3);
        signIs("c0;t20", LATE, 0, 3);
        signIs("c0;t19", LATE, 0, 2);
        signIs("c0;t13", LATE, 0, 2);
        signIs("c0;t12", LATE, 0, 1);
        signIs("c0;t0", LATE, 0, 1);
        ColdMotor x = Due.motor("c0;t14");
        x.see(0, 3);
        Due.is("14: behind a kick 2 warmer", x.state(0, 4), 2);
        Due.is("14: behind a kick it does not run", x.state(0, 7), 0);
        ColdMotor y = Due.motor("c0;t6");
        y.see(0, 1);
        Due.is("14: behind a cough 2 warmer", y.state(0, 4), 2);
    }

    private static void signWhenNothingIsDone() {
        int[] minutes = {1, 1, 1, 1, 10, 8, 6, 2, 12, 15};
        int[] signs = {0, 0, 0, 0, 0, 6, 0, 0, 0, 0};
        for (int act = 0; act < 10; act++) {
            signIs("s0;m" + minutes[act], 0, act, signs[act]);
            signIs("s0;m" + (minutes[act] - 1), 0, act, 4);
            signIs("b0", 0, act, act < 4 ? 4 : signs[act]);
        }
        signIs("b1;c4;s0", 0, 0, 0);
        signIs("b1;c5;s0", 0, 0, 4);
        signIs("b2;c9;s0", 0, 0, 0);
        ColdMotor x = new ColdMotor();
        x.see(1, 2);
        for (int act = 0; act < 10; act++) {
            Due.is("14: it runs: sign(0, " + act + ")", x.sign(0, act), 4);
        }
        ColdMotor y = Due.motor("c0;d9");
        y.see(1, 0);
        Due.is("14: the plug is wet", y.sign(0, 5), 5);
        y.see(5, 5);
        Due.is("14: the plug is dry", y.sign(0, 5), 6);
        ColdMotor z = Due.motor("c0;d8");
        z.see(1, 1);
        Due.is("14: the plug is wet by 1", z.sign(0, 5), 5);
    }
}
