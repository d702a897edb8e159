/** Edges of TROUBLES, STATES, ACTS and SIGNS: a test for each sentence, promises 13 and 14. */
public final class EdgeActsTest {
    private static final int BATTERY = 0, LIGHT = 1, WALL = 2, WET = 3, WARMTH = 4, SPOON = 5, TROUBLES = 6, RUNS = 7;
    private static final int PRESSLESS = 1, SPARKLESS = 2, STARVED = 4, LATE = 8, FROZEN = 16;
    private static final int WAIT = 4, DRY = 5, HEAT = 6, PRIME = 7, FILE = 8, SET = 9;
    private static final int[] MINUTES = {1, 1, 1, 1, 10, 8, 6, 2, 12, 15};

    public static void main(String[] args) {
        troublesAsBits();
        pressless();
        sparkless();
        starved();
        late();
        frozen();
        firstState();
        turnTakesLightAndBattery();
        draws();
        laidOnTheWall();
        comesOffTheWall();
        spoonInTheMix();
        spoonIsEmptyThen();
        eighthOfBattery();
        thirdOfWet();
        sixthOfWarmth();
        fires();
        kicksCoughsOrRuns();
        coughsWithoutFire();
        wetByTheMix();
        wetIsNinetyNineAtMost();
        warmerByOneOrTwo();
        warmthIsTwentyAtMost();
        runningChangesNoMore();
        waiting();
        waitingForBattery();
        drying();
        heating();
        priming();
        filing();
        settingTheTime();
        tooLittleLight();
        tooLittleBattery();
        nothingIsDoneWhenItRuns();
        stateAndSignBehindAllThatWasSeen();
        Due.end("EdgeActsTest");
    }

    /** A motor behind ACTS, by whatever SIGN. */
    private static ColdMotor behind(String text, int... acts) {
        ColdMotor x = Due.motor(text);
        for (int i = 0; i < acts.length; i++) {
            Due.is("see(" + acts[i] + ", 0)", x.see(acts[i], 0), i + 1);
        }
        return x;
    }

    private static void signIs(String text, int set, int act, int want) {
        Due.is("sign(" + set + ", " + act + ") of " + text, Due.motor(text).sign(set, act), want);
    }

    private static void partIs(ColdMotor x, int set, int part, int want) {
        Due.is("state(" + set + ", " + part + ")", x.state(set, part), want);
    }

    private static void stateIs(ColdMotor x, int set, int... want) {
        for (int part = 0; part < 8; part++) {
            partIs(x, set, part, want[part]);
        }
    }

    /** One ACT after the other: what a part of the STATE comes to behind each. */
    private static void row(ColdMotor x, int set, int act, int part, int... want) {
        for (int i = 0; i < want.length; i++) {
            x.see(act, 0);
            Due.is("state(" + set + ", " + part + ") behind " + (i + 1), x.state(set, part), want[i]);
        }
    }

    private static void troublesAsBits() {
        Due.says("TROUBLES are 0 to 4, a SET of them is told as bits");
        ColdMotor x = new ColdMotor();
        for (int set = 0; set < 32; set++) {
            partIs(x, set, TROUBLES, set);
        }
        Due.is("state(-1, 6)", x.state(-1, 6), -2);
        Due.is("state(32, 6)", x.state(32, 6), -2);
        Due.is("sign(-1, 0)", x.sign(-1, 0), -2);
        Due.is("sign(32, 0)", x.sign(32, 0), -2);
    }

    private static void pressless() {
        Due.says("0 PRESSLESS (PRESS is 4 less)");
        signIs("c0;p9", PRESSLESS, 0, 2);
        signIs("c0;p8", PRESSLESS, 0, 1);
        signIs("c0;p7", PRESSLESS, 0, 0);
        signIs("c0;p0", PRESSLESS, 0, 0);
        // 3 and a sixth of 6, then of 12
        Due.is("p7 at 6", behind("c0;p7;m99", HEAT).sign(PRESSLESS, 0), 1);
        Due.is("p7 at 12", behind("c0;p7;m99", HEAT, HEAT).sign(PRESSLESS, 0), 2);
    }

    private static void sparkless() {
        Due.says("1 SPARKLESS (SPARK is 5 less)");
        signIs("c0;b9;s8", SPARKLESS, 0, 2);
        signIs("c0;b9;s7", SPARKLESS, 0, 1);
        signIs("c0;b9;s6", SPARKLESS, 0, 0);
        // below 0 too: no least is told
        signIs("c0;b30;s5", SPARKLESS, 0, 1);
        signIs("c0;b30;s4", SPARKLESS, 0, 0);
        signIs("c0;b30;s0", SPARKLESS, 0, 0);
    }

    private static void starved() {
        Due.says("2 STARVED (it draws nothing)");
        for (int choke = 0; choke < 4; choke++) {
            ColdMotor x = behind("c9;d9", choke);
            partIs(x, STARVED, WALL, 0);
            partIs(x, 0, WALL, (9 + 2 * choke) * 9 / 10);
            signIs("c0;d9", STARVED, choke, 0);
            // a full spoon is not drawn
            Due.is("primed", behind("c0;d9", PRIME).sign(STARVED, choke), 2);
        }
    }

    private static void late() {
        Due.says("3 LATE (TIME is 6 less)");
        signIs("c0;t20", LATE, 0, 3);
        signIs("c0;t19", LATE, 0, 2);
        signIs("c0;t13", LATE, 0, 2);
        signIs("c0;t12", LATE, 0, 1);
        signIs("c0;t0", LATE, 0, 1);
    }

    private static void frozen() {
        Due.says("4 FROZEN (it draws nothing as long as WARMTH is below 6)");
        ColdMotor x = Due.motor("c0");
        for (int warmth = 0; warmth < 6; warmth++) {
            partIs(x, FROZEN, WARMTH, warmth);
            Due.is("sign at " + warmth, x.sign(FROZEN, 0), 0);
            x.see(0, 0);
        }
        partIs(x, FROZEN, WARMTH, 6);
        Due.is("sign at 6", x.sign(FROZEN, 0), 2);
        partIs(x, FROZEN, TROUBLES, FROZEN);
        // and again below 6
        Due.is("heated to 6", behind("c0", HEAT).sign(FROZEN, 0), 2);
        Due.is("cooled to 5", behind("c0", HEAT, WAIT).sign(FROZEN, 0), 0);
        Due.is("STARVED besides", behind("c0", HEAT).sign(FROZEN + STARVED, 0), 0);
    }

    private static void firstState() {
        Due.says("A STATE: BATTERY and LIGHT as the MOTOR has them at first; WALL, WET, WARMTH, SPOON: 0 at first");
        for (int set = 0; set < 32; set++) {
            stateIs(Due.motor("b0;m0"), set, 0, 0, 0, 0, 0, 0, set, 0);
            stateIs(Due.motor("b30;m99"), set, 30, 99, 0, 0, 0, 0, set, 0);
        }
        stateIs(new ColdMotor(), 0, 12, 60, 0, 0, 0, 0, 0, 0);
        ColdMotor x = behind("b30;m99;s0", 0);
        // a mix of 3 and a FAT of 3 by 29 of BATTERY: a cough
        stateIs(x, 0, 29, 98, 1, 0, 2, 0, 0, 0);
        Due.retype(x, 0, "b5;m7;s0");
        // another MOTOR: all is done anew from its own first STATE
        stateIs(x, 0, 4, 6, 1, 0, 1, 0, 0, 0);
    }

    private static void turnTakesLightAndBattery() {
        Due.says("takes 1 of LIGHT, and of BATTERY 1 and, besides, a fifth of COLD (cut)");
        int[] cost = {1, 1, 1, 1, 1, 2, 2, 2, 2, 2};
        for (int cold = 0; cold < 10; cold++) {
            for (int choke = 0; choke < 4; choke++) {
                String motor = "s0;d0;c" + cold;
                ColdMotor x = behind(motor + ";b9;m9", choke);
                partIs(x, 0, BATTERY, 9 - cost[cold]);
                partIs(x, 0, LIGHT, 8);
                signIs(motor + ";b" + cost[cold], 0, choke, 0);
                signIs(motor + ";b" + (cost[cold] - 1), 0, choke, 4);
                partIs(behind(motor + ";b" + cost[cold] + ";m1", choke), 0, BATTERY, 0);
                partIs(behind(motor + ";b" + cost[cold] + ";m1", choke), 0, LIGHT, 0);
            }
        }
    }

    private static void draws() {
        Due.says("ACTS 0 to 3 are TURNS with the CHOKE so far (0 to 3)");
        Due.says("It draws DRAW and twice CHOKE (or nothing)");
        // without COLD nothing is laid, and what is drawn is the mix
        int[] mixes = {0, 0, 0, 1, 2, 2, 2, 2, 2, 2, 1, 0, 0, 0, 0, 0};
        for (int draw = 0; draw < 10; draw++) {
            for (int choke = 0; choke < 4; choke++) {
                int drawn = draw + 2 * choke;
                signIs("c0;d" + draw, 0, choke, mixes[drawn]);
                partIs(behind("c0;s0;d" + draw, choke), 0, WET, drawn > 9 ? drawn - 9 : 0);
            }
        }
        ColdMotor x = new ColdMotor();
        Due.is("sign(0, -1)", x.sign(0, -1), -2);
        Due.is("sign(0, 10)", x.sign(0, 10), -2);
    }

    private static void laidOnTheWall() {
        Due.says("of that times COLD by 10 (cut) is LAID on the WALL");
        partIs(behind("s0;d1;c9", 0), 0, WALL, 0);
        partIs(behind("s0;d2;c5", 0), 0, WALL, 1);
        partIs(behind("s0;d3;c3", 0), 0, WALL, 0);
        partIs(behind("s0;d9;c9", 3), 0, WALL, 13);
        partIs(behind("s0;d9;c0", 3), 0, WALL, 0);
        partIs(behind("s0;d0;c9", 0), 0, WALL, 0);
        for (int draw = 0; draw < 10; draw++) {
            for (int cold = 0; cold < 10; cold++) {
                for (int choke = 0; choke < 4; choke++) {
                    int tenths = (draw + choke + choke) * cold;
                    ColdMotor x = behind("s0;d" + draw + ";c" + cold, choke);
                    partIs(x, 0, WALL, (tenths - tenths % 10) / 10);
                }
            }
        }
    }

    private static void comesOffTheWall() {
        Due.says("a fourth (cut) of what the WALL had ahead comes OFF");
        // 3 laid by each; of 3 nothing comes off, of 6 one, of 8 two, of 12 three
        row(Due.motor("d8;c4;s0"), 0, 0, WALL, 3, 6, 8, 9, 10, 11, 12, 12, 12);
        // 4 laid by each: of 4 one comes off
        row(Due.motor("d8;c5;s0;b30"), 0, 0, WALL, 4, 7, 10, 12, 13, 14, 15, 16, 16);
        // what is laid now is not there ahead: 9 drawn, 8 laid, mix 1, though the wall has 8 then
        signIs("d9;c9", 0, 0, 0);
        // 1 and 2 that come off: a cough
        Due.is("behind a turn", behind("d9;c9", 0).sign(0, 0), 1);
        // what comes off is in the mix though nothing is drawn: 13 on the wall
        Due.is("frozen anew", behind("d9;c9;b30;m99", HEAT, 3, WAIT, WAIT).sign(FROZEN, 0), 1);
        partIs(behind("d9;c9;b30;m99", HEAT, 3, WAIT, WAIT, 0), FROZEN, WALL, 10);
    }

    private static void spoonInTheMix() {
        Due.says("MIX: what is drawn, OFF and SPOON (0 then) together, less LAID.");
        int[] byDraw = {2, 2, 2, 2, 2, 1, 0, 0, 0, 0};
        for (int draw = 0; draw < 10; draw++) {
            Due.is("d" + draw + " and a spoon", behind("c0;d" + draw, PRIME).sign(0, 0), byDraw[draw]);
        }
        // 10 drawn, 5 laid, 5 of the spoon are 10; then 1 off the wall and no spoon
        ColdMotor x = behind("c5;d4;s0", PRIME, 3);
        partIs(x, 0, WET, 1);
        partIs(x, 0, WALL, 5);
        x.see(3, 0);
        partIs(x, 0, WET, 1);
    }

    private static void spoonIsEmptyThen() {
        Due.says("SPOON (0 then)");
        partIs(behind("s0", PRIME, 0), 0, SPOON, 0);
        ColdMotor runs = behind("c0", PRIME, 0);
        partIs(runs, 0, RUNS, 1);
        partIs(runs, 0, SPOON, 0);
        partIs(behind("b0", PRIME, 0), 0, SPOON, 5);
        partIs(behind("m99", PRIME, WAIT, DRY, HEAT, FILE, SET), 0, SPOON, 5);
    }

    private static void eighthOfBattery() {
        Due.says("FAT: SPARK, and an eighth of BATTERY (as left; cut)");
        signIs("c0;s3;b8", 0, 0, 1);
        signIs("c0;s3;b9", 0, 0, 2);
        signIs("c0;s2;b16", 0, 0, 1);
        signIs("c0;s2;b17", 0, 0, 2);
        signIs("c0;s1;b24", 0, 0, 1);
        signIs("c0;s1;b25", 0, 0, 2);
        signIs("c0;s0;b24", 0, 0, 0);
        signIs("c0;s0;b25", 0, 0, 1);
        // it takes 2 when it is as cold as 5
        signIs("c5;d8;s3;b9", 0, 0, 1);
        signIs("c5;d8;s3;b10", 0, 0, 2);
    }

    private static void thirdOfWet() {
        Due.says("less a third of WET (cut)");
        Due.is("wet by 2", behind("c0;d9;s4;b7", 1).sign(0, 0), 2);
        Due.is("wet by 3", behind("c0;d8;s4;b7", 2).sign(0, 0), 1);
        Due.is("wet by 5", behind("c0;d8;s4;b7", 3).sign(0, 0), 1);
        Due.is("wet by 6", behind("c0;d9;s4;b7", 3).sign(0, 0), 0);
        // by its own turn it is wetter only behind it: mix 10 and a spark of 3
        signIs("c0;d8;s3;b7", 0, 1, 1);
    }

    private static void sixthOfWarmth() {
        Due.says("PUSH: PRESS, and a sixth of WARMTH (cut)");
        int[] heats = {0, 6, 12, 18};
        for (int times = 1; times < 4; times++) {
            ColdMotor x = Due.motor("c0;m99;p" + (5 - times));
            for (int i = 0; i < times; i++) {
                x.see(HEAT, 0);
            }
            partIs(x, 0, WARMTH, heats[times]);
            Due.is("at " + heats[times], x.sign(0, 0), 2);
            x.see(WAIT, 0);
            Due.is("at " + (heats[times] - 1), x.sign(0, 0), 1);
        }
        Due.is("p1 at 20", behind("c0;m99;p1", HEAT, HEAT, HEAT, HEAT).sign(0, 0), 1);
        Due.is("p0 at 20", behind("c0;m99;p0", HEAT, HEAT, HEAT, HEAT).sign(0, 0), 0);
    }

    private static void fires() {
        Due.says("It FIRES, if MIX is 4 to 9, FAT at least 4, PUSH at least 5");
        signIs("c0;b1;d4;s4;p5", 0, 0, 2);
        signIs("c0;b1;d9;s4;p5", 0, 0, 2);
        signIs("c0;b1;d3;s4;p5", 0, 0, 1);
        signIs("c0;b1;d8;s4;p5", 0, 1, 1);
        signIs("c0;b1;d4;s3;p5", 0, 0, 1);
        signIs("c0;b1;d4;s4;p4", 0, 0, 1);
        signIs("c0;b30;d9;s9;p9", 0, 0, 2);
    }

    private static void kicksCoughsOrRuns() {
        Due.says("then, if TIME is above 13, it KICKS (SIGN 3); below 7, it COUGHS (1); else it RUNS (2)");
        for (int time = 0; time <= 20; time++) {
            int want = time >= 14 ? 3 : time <= 6 ? 1 : 2;
            signIs("c0;t" + time, 0, 0, want);
            partIs(behind("c0;t" + time, 0), 0, RUNS, want == 2 ? 1 : 0);
        }
    }

    private static void coughsWithoutFire() {
        Due.says("If it does not fire: it COUGHS (1), if MIX is 3 to 10, FAT at least 3, PUSH at least 4; else nothing (0)");
        signIs("c0;b1;d3;s3;p4", 0, 0, 1);
        signIs("c0;b1;d2;s3;p4", 0, 0, 0);
        signIs("c0;b1;d3;s2;p4", 0, 0, 0);
        signIs("c0;b1;d3;s3;p3", 0, 0, 0);
        signIs("c0;b1;d8;s3;p4", 0, 1, 1);
        signIs("c0;b1;d9;s3;p4", 0, 1, 0);
        signIs("c0;b1;d8;s2;p4", 0, 1, 0);
        signIs("c0;b1;d8;s3;p3", 0, 1, 0);
        // what does not fire does not kick
        signIs("c0;d3;t20", 0, 0, 1);
        signIs("c0;d3;t0", 0, 0, 1);
        signIs("c0;d2;t20", 0, 0, 0);
    }

    private static void wetByTheMix() {
        Due.says("If it does not run, WET is more by MIX less 9 (if MIX is more");
        partIs(behind("c0;s0;d9", 0), 0, WET, 0);
        partIs(behind("c0;s0;d0", 0), 0, WET, 0);
        partIs(behind("c0;d8", 1), 0, WET, 1);
        partIs(behind("c0;d9", 3), 0, WET, 6);
        partIs(behind("c0;d9", PRIME, 3), 0, WET, 11);
        // it is not less by a turn with a poor mix
        partIs(behind("c0;s0;d8", 1, 0, 0), 0, WET, 1);
        // what kicks has a mix of 9 at most
        partIs(behind("c0;d9;t20", 0), 0, WET, 0);
    }

    private static void wetIsNinetyNineAtMost() {
        Due.says("99 at most");
        ColdMotor x = Due.motor("d8;c0;b30;m99");
        row(x, 0, 3, WET, 5, 10, 15, 20, 25, 30, 35, 40, 45, 50, 55, 60, 65, 70, 75, 80, 85, 90, 95);
        row(x, 0, 2, WET, 98);
        row(x, 0, 1, WET, 99, 99);
        row(x, 0, 3, WET, 99);
        ColdMotor y = Due.motor("d9;c0;b30;m99");
        row(y, 0, 3, WET, 6, 12, 18, 24, 30, 36, 42, 48, 54, 60, 66, 72, 78, 84, 90, 96, 99, 99);
    }

    private static void warmerByOneOrTwo() {
        Due.says("and WARMTH 1 more, or, behind a KICK or a COUGH, 2 more");
        partIs(behind("c0;s0", 0), 0, WARMTH, 1);
        partIs(behind("c0;d3", 0), 0, WARMTH, 2);
        partIs(behind("c0;t6", 0), 0, WARMTH, 2);
        partIs(behind("c0;t14", 0), 0, WARMTH, 2);
        partIs(behind("c0;b0", 0), 0, WARMTH, 0);
    }

    private static void warmthIsTwentyAtMost() {
        Due.says("(20 at most)");
        row(behind("c0;s0;m99", HEAT, HEAT, HEAT), 0, 0, WARMTH, 19, 20, 20);
        row(behind("c0;d3;m99", HEAT, HEAT, HEAT), 0, 0, WARMTH, 20, 20);
        // 18, then 17 by waiting: a cough comes to 19, the next one to 20
        row(behind("c0;d3;m99", HEAT, HEAT, HEAT, WAIT), 0, 0, WARMTH, 19, 20, 20);
        row(behind("c0;t14;m99", HEAT, HEAT, HEAT, WAIT), 0, 0, WARMTH, 19, 20, 20);
    }

    private static void runningChangesNoMore() {
        Due.says("If it does not run, WET is more .., and WARMTH");
        ColdMotor x = behind("c0;d8;s9", 1, HEAT, 0);
        // wet by 1 and warmer by 2 behind the cough, 6 by heat; by the turn that runs no more
        stateIs(x, 0, 10, 52, 0, 1, 8, 0, 0, 1);
    }

    private static void waiting() {
        Due.says("ACT 4 is to WAIT (10 MINUTES): WET 4 less, WARMTH 1 less (0 at least)");
        signIs("m9", 0, WAIT, 4);
        signIs("m10", 0, WAIT, 0);
        partIs(behind("m10", WAIT), 0, LIGHT, 0);
        partIs(behind("c0;d8;m99", 2, WAIT), 0, WET, 0);
        partIs(behind("c0;d9;m99", 2, WAIT), 0, WET, 0);
        partIs(behind("c0;d8;m99", 3, WAIT), 0, WET, 1);
        partIs(behind("c0;d8;m99", 3, WAIT, WAIT), 0, WET, 0);
        partIs(behind("m99", WAIT), 0, WET, 0);
        partIs(behind("m99", WAIT), 0, WARMTH, 0);
        partIs(behind("s0;m99", 0, WAIT), 0, WARMTH, 0);
        partIs(behind("c0;d3;m99", 0, WAIT), 0, WARMTH, 1);
        partIs(behind("m99", HEAT, HEAT, HEAT, HEAT, WAIT), 0, WARMTH, 19);
    }

    private static void waitingForBattery() {
        Due.says("BATTERY 1 more (no more than at first); SIGN 0");
        partIs(behind("m99", WAIT), 0, BATTERY, 12);
        partIs(behind("b0;m99", WAIT), 0, BATTERY, 0);
        partIs(behind("b30;m99", WAIT), 0, BATTERY, 30);
        row(behind("s0;c5;m99", 0), 0, WAIT, BATTERY, 11, 12, 12);
        ColdMotor x = behind("s0;c5;b2;m99", 0);
        partIs(x, 0, BATTERY, 0);
        x.see(WAIT, 0);
        partIs(x, 0, BATTERY, 1);
        Due.is("1 is not enough", x.sign(0, 0), 4);
        x.see(WAIT, 0);
        Due.is("2 are", x.sign(0, 0), 0);
    }

    private static void drying() {
        Due.says("5 to DRY the plug (8): SIGN 5 (it was WET), 6 (it was not); WET is 0 then");
        signIs("m7", 0, DRY, 4);
        signIs("m8", 0, DRY, 6);
        partIs(behind("m8", DRY), 0, LIGHT, 0);
        ColdMotor x = behind("c0;d8", 1);
        Due.is("wet by 1", x.sign(0, DRY), 5);
        Due.is("starved it is dry", x.sign(STARVED, DRY), 6);
        x.see(DRY, 5);
        partIs(x, 0, WET, 0);
        Due.is("dried", x.sign(0, DRY), 6);
        ColdMotor most = Due.motor("d9;c0;b30;m99");
        for (int i = 0; i < 17; i++) {
            most.see(3, 0);
        }
        Due.is("wet by 99", most.sign(0, DRY), 5);
        most.see(DRY, 5);
        partIs(most, 0, WET, 0);
        ColdMotor dark = behind("c0;d8;m8", 1);
        Due.is("wet, with 7 of LIGHT", dark.sign(0, DRY), 4);
        dark.see(DRY, 4);
        partIs(dark, 0, WET, 1);
        Due.is("wet, with 8 of LIGHT", behind("c0;d8;m9", 1).sign(0, DRY), 5);
    }

    private static void heating() {
        Due.says("6 to HEAT (6): WARMTH 6 more (20 at most); 0");
        signIs("m5", 0, HEAT, 4);
        signIs("m6", 0, HEAT, 0);
        partIs(behind("m6", HEAT), 0, LIGHT, 0);
        row(Due.motor("m99"), 0, HEAT, WARMTH, 6, 12, 18, 20, 20);
        // 14 and 6 are 20, as are 15 and 6
        partIs(behind("s0;m99", HEAT, HEAT, 0, 0, HEAT), 0, WARMTH, 20);
        partIs(behind("s0;m99", HEAT, HEAT, 0, HEAT), 0, WARMTH, 19);
        partIs(behind("s0;m99", HEAT, HEAT, 0, 0, 0, HEAT), 0, WARMTH, 20);
    }

    private static void priming() {
        Due.says("7 to PRIME (2): SPOON is 5; 0");
        signIs("m1", 0, PRIME, 4);
        signIs("m2", 0, PRIME, 0);
        partIs(behind("m1", PRIME), 0, SPOON, 0);
        partIs(behind("m2", PRIME), 0, SPOON, 5);
        partIs(behind("m2", PRIME), 0, LIGHT, 0);
        row(Due.motor("m99"), 0, PRIME, SPOON, 5, 5, 5);
    }

    private static void filing() {
        Due.says("8 to FILE (12): it is not SPARKLESS then; 0");
        signIs("m11", SPARKLESS, FILE, 4);
        signIs("m12", SPARKLESS, FILE, 0);
        partIs(behind("m11", FILE), SPARKLESS, TROUBLES, SPARKLESS);
        partIs(behind("m12", FILE), SPARKLESS, LIGHT, 0);
        ColdMotor once = behind("m99", FILE);
        ColdMotor twice = behind("m99", FILE, FILE);
        for (int set = 0; set < 32; set++) {
            partIs(once, set, TROUBLES, set - (set / 2 % 2) * 2);
            partIs(twice, set, TROUBLES, set - (set / 2 % 2) * 2);
        }
        Due.is("it has its SPARK", behind("c0", FILE).sign(SPARKLESS, 0), 2);
    }

    private static void settingTheTime() {
        Due.says("9 to SET (15): it is not LATE then; 0");
        signIs("m14", LATE, SET, 4);
        signIs("m15", LATE, SET, 0);
        partIs(behind("m14", SET), LATE, TROUBLES, LATE);
        partIs(behind("m15", SET), LATE, LIGHT, 0);
        ColdMotor once = behind("m99", SET);
        ColdMotor twice = behind("m99", SET, SET);
        for (int set = 0; set < 32; set++) {
            partIs(once, set, TROUBLES, set - (set / 8 % 2) * 8);
            partIs(twice, set, TROUBLES, set - (set / 8 % 2) * 8);
        }
        Due.is("it has its TIME", behind("c0", SET).sign(LATE, 0), 2);
        Due.is("too early a TIME stays so", behind("c0;t14", SET).sign(LATE, 0), 3);
    }

    private static void tooLittleLight() {
        Due.says("there is not as much BATTERY, LIGHT as an ACT takes, nothing is done: SIGN 4");
        for (int act = 0; act < 10; act++) {
            ColdMotor x = behind("m" + (MINUTES[act] - 1), act);
            stateIs(x, 31, 12, MINUTES[act] - 1, 0, 0, 0, 0, 31, 0);
            ColdMotor none = Due.motor("m0");
            Due.is("sign(0, " + act + ") without LIGHT", none.sign(0, act), 4);
            ColdMotor last = behind("s0;m" + MINUTES[act], act);
            partIs(last, 31, LIGHT, 0);
        }
        // what takes less can be done yet
        ColdMotor y = behind("m9", SET, FILE, WAIT, DRY);
        partIs(y, 0, LIGHT, 1);
        partIs(y, LATE + SPARKLESS, TROUBLES, LATE + SPARKLESS);
    }

    private static void tooLittleBattery() {
        Due.says("there is not as much BATTERY, LIGHT as an ACT takes, nothing is done: SIGN 4");
        for (int choke = 0; choke < 4; choke++) {
            stateIs(behind("b0", choke), 0, 0, 60, 0, 0, 0, 0, 0, 0);
            stateIs(behind("b1;c5", choke), 0, 1, 60, 0, 0, 0, 0, 0, 0);
            signIs("b0;m0", 0, choke, 4);
        }
        int[] signs = {4, 4, 4, 4, 0, 6, 0, 0, 0, 0};
        for (int act = 0; act < 10; act++) {
            signIs("b0;m99", 0, act, signs[act]);
        }
    }

    private static void nothingIsDoneWhenItRuns() {
        Due.says("If it RUNS, .., nothing is done: SIGN 4");
        for (int act = 0; act < 10; act++) {
            ColdMotor x = behind("c0;m99", 0);
            Due.is("sign(0, " + act + ")", x.sign(0, act), 4);
            x.see(act, 4);
            stateIs(x, 0, 11, 98, 0, 0, 0, 0, 0, 1);
            ColdMotor dark = behind("c0;m1;b1", 0);
            Due.is("without LIGHT besides", dark.sign(0, act), 4);
        }
    }

    private static void stateAndSignBehindAllThatWasSeen() {
        Due.says("STATE with a SET behind all ACTS that were SEEN (whatever SIGNS it had)");
        ColdMotor x = Due.motor("s0;c0;d0;b30;m99");
        for (int i = 1; i <= 24; i++) {
            x.see(0, i % 7);
            partIs(x, 0, LIGHT, 99 - i);
            partIs(x, 31, BATTERY, 30 - i);
        }
        Due.is("see() when full", x.see(0, 0), -4);
        partIs(x, 0, LIGHT, 75);
        Due.is("state(0, -1)", x.state(0, -1), -2);
        Due.is("state(0, 8)", x.state(0, 8), -2);
        x.back();
        partIs(x, 0, LIGHT, 76);
        Due.says("With a SET, behind all ACTS that were SEEN: the SIGN of an ACT.");
        ColdMotor y = Due.motor("c0;m25;b30;d3");
        for (int i = 0; i < 24; i++) {
            y.see(0, 6);
        }
        Due.is("sign behind 24", y.sign(0, 0), 1);
        Due.is("sign behind 24, to PRIME", y.sign(0, PRIME), 4);
        partIs(y, 0, LIGHT, 1);
    }
}
