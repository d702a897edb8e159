/** Promises 1 to 5: a new object, type, wipe, fault, motor. */
public final class TextsTest {
    private static final int[] AT_FIRST = {7, 6, 10, 4, 4, 12, 60};

    public static void main(String[] args) {
        newObject();
        type();
        wipe();
        faultOfMotor();
        faultOfHabit();
        motor();
        Due.end("TextsTest");
    }

    private static void newObject() {
        ColdMotor x = new ColdMotor();
        int[] counts = {0, 0, 0, 32, 0, 15, 0, 0, 0};
        for (int what = 0; what < counts.length; what++) {
            Due.is("1: count(" + what + ")", x.count(what), counts[what]);
        }
        Due.is("1: fault(0)", x.fault(0), -1);
        Due.is("1: fault(1)", x.fault(1), -1);
        for (int s = 0; s < 4; s++) {
            Due.is("1: lose(" + s + ")", x.lose(s), -11);
        }
        for (int set = 0; set < 32; set++) {
            int[] state = {12, 60, 0, 0, 0, 0, set, 0};
            for (int what = 0; what < 8; what++) {
                Due.is("1: state(" + set + ", " + what + ")", x.state(set, what), state[what]);
            }
        }
        ColdMotor other = new ColdMotor();
        x.type(0, 'p');
        x.see(0, 0);
        x.ahead(0, 9);
        x.sheet(0, 0, 3);
        x.morning(0, 0, 1);
        Due.is("1: another object's count(0)", other.count(0), 0);
        Due.is("1: another object's count(2)", other.count(2), 0);
        Due.is("1: another object's count(5)", other.count(5), 15);
        Due.is("1: another object's count(4)", other.count(4), 0);
        Due.is("1: another object's lose(0)", other.lose(0), -11);
    }

    private static void type() {
        ColdMotor x = new ColdMotor();
        int[] bad = {-1, 2, Integer.MIN_VALUE, Integer.MAX_VALUE};
        for (int text : bad) {
            Due.is("2: type(" + text + ", 48)", x.type(text, 48), -2);
        }
        Due.is("2: type(0, -1)", x.type(0, -1), -2);
        Due.is("2: type(0, 256)", x.type(0, 256), -2);
        Due.is("2: count(0) behind refusals", x.count(0), 0);
        Due.is("2: type(1, 0)", x.type(1, 0), 1);
        Due.is("2: type(1, 255)", x.type(1, 255), 2);
        Due.is("2: count(0) is another's", x.count(0), 0);
        for (int i = 0; i < 60; i++) {
            Due.is("2: type(0, 112)", x.type(0, 112), i + 1);
        }
        Due.is("2: the 61st", x.type(0, 112), -4);
        Due.is("2: BAD ahead of FULL", x.type(0, 256), -2);
        Due.is("2: count(0) when full", x.count(0), 60);
        for (int i = 2; i < 40; i++) {
            Due.is("2: type(1, 48)", x.type(1, 48), i + 1);
        }
        Due.is("2: the 41st", x.type(1, 48), -4);
        Due.is("2: count(1) when full", x.count(1), 40);
    }

    private static void wipe() {
        ColdMotor x = Due.motor("p3;b5");
        Due.retype(x, 1, "1*2");
        Due.is("3: wipe(-1)", x.wipe(-1), -2);
        Due.is("3: wipe(2)", x.wipe(2), -2);
        Due.is("3: wipe(0)", x.wipe(0), 5);
        Due.is("3: motor(0) behind it", x.motor(0), 7);
        Due.is("3: motor(5) behind it", x.motor(5), 12);
        Due.is("3: the habit is there", x.count(6), 2);
        Due.is("3: wipe(1)", x.wipe(1), 3);
        Due.is("3: the habit is gone", x.count(6), 0);
        Due.is("3: wipe(1) again", x.wipe(1), 0);
        // what stood there before the wipe is not read again
        Due.retype(x, 0, "t20;s1");
        Due.retype(x, 0, "t");
        Due.is("3: fault(0) of a shorter text", x.fault(0), 1);
        Due.retype(x, 0, "t1");
        Due.is("3: motor(2) of a shorter text", x.motor(2), 1);
        Due.retype(x, 1, "1*3");
        Due.retype(x, 1, "1");
        Due.is("3: count(6) of a shorter text", x.count(6), 1);
    }

    private static void fault(int text, String bytes, int want) {
        ColdMotor x = new ColdMotor();
        Due.retype(x, text, bytes);
        Due.is("4: fault(" + text + ") of " + bytes, x.fault(text), want);
    }

    private static void faultOfMotor() {
        ColdMotor x = new ColdMotor();
        Due.is("4: fault(-1)", x.fault(-1), -2);
        Due.is("4: fault(2)", x.fault(2), -2);
        String letters = "pstdcbm";
        int[] most = {9, 9, 20, 9, 9, 30, 99};
        for (int what = 0; what < 7; what++) {
            char letter = letters.charAt(what);
            fault(0, letter + "0", -1);
            fault(0, letter + "00", -1);
            fault(0, letter + "" + most[what], -1);
            fault(0, "p1;" + letter + (most[what] + 1), most[what] == 99 ? 6 : 4);
            fault(0, "" + letter, 1);
            fault(0, letter + ";", 1);
            fault(0, letter + "1;", 3);
            fault(0, letter + "1" + letter, 2);
        }
        fault(0, ";", 0);
        fault(0, "1", 0);
        fault(0, "P1", 0);
        fault(0, "p1;;s1", 3);
        fault(0, "p 1", 1);
        fault(0, "p1 ", 2);
        fault(0, "p-1", 1);
        fault(0, "b031", 3);
        fault(0, "b30x", 3);
        fault(0, "p10x", 1);
        fault(0, "p100", 1);
        fault(0, "p1;x2;p99", 3);
        fault(0, "p99;x2", 1);
        fault(0, "p1;p1;p1;p1;p1;p1;p1;p1;p1;p1;p1;p1;p1;p1;p1;p1;p1;p1;p1;p01", -1);
        fault(0, "p1;p1;p1;p1;p1;p1;p1;p1;p1;p1;p1;p1;p1;p1;p1;p1;p1;p1;p1;p1;", 60);
        fault(0, "p1" + (char) 0xBB + "s1", 2);
        fault(0, (char) 0 + "", 0);
    }

    private static void faultOfHabit() {
        fault(1, "0", -1);
        fault(1, "9*2", -1);
        fault(1, "9*9", -1);
        fault(1, "9*0", 2);
        fault(1, "9*1", 2);
        fault(1, "9*x", 2);
        fault(1, "9*", 2);
        fault(1, "9*22", 3);
        fault(1, "9*2*2", 3);
        fault(1, "10", 1);
        fault(1, "1;2", 1);
        fault(1, "1,", 2);
        fault(1, "1,,2", 2);
        fault(1, ",1", 0);
        fault(1, "*2", 0);
        fault(1, "1, 2", 2);
        fault(1, "3*9,3*9,3*9,3*9,3*9,3*9,3*9,3*9,3*9,3*9", -1);
        fault(1, "3*9,3*9,3*9,3*9,3*9,3*9,3*9,3*9,3*9,3*9,", 40);
        fault(1, "1,2,3,4,5,6,7,8,9,0,1,2,3,4,5,6,7,8,9*4", -1);
    }

    private static void motorIs(String text, int... want) {
        ColdMotor x = Due.motor(text);
        for (int what = 0; what < 7; what++) {
            Due.is("5: motor(" + what + ") of " + text, x.motor(what), want[what]);
        }
        Due.is("5: motor(-1)", x.motor(-1), -2);
        Due.is("5: motor(7)", x.motor(7), -2);
    }

    private static void motor() {
        motorIs("", AT_FIRST);
        motorIs("p1;s2;t3;d4;c5;b6;m7", 1, 2, 3, 4, 5, 6, 7);
        motorIs("m99;b30;c9;d9;t20;s9;p9", 9, 9, 20, 9, 9, 30, 99);
        motorIs("p0;s0;t0;d0;c0;b0;m0", 0, 0, 0, 0, 0, 0, 0);
        motorIs("t07", 7, 6, 7, 4, 4, 12, 60);
        motorIs("p3;b5;p8;b01", 8, 6, 10, 4, 4, 1, 60);
        motorIs("p3;b5;x", AT_FIRST);
        motorIs("p3;b5;", AT_FIRST);
        motorIs("p3;b31", AT_FIRST);
        ColdMotor x = Due.motor("p3;");
        Due.is("5: of a text with a fault", x.motor(0), 7);
        x.type(0, 's');
        x.type(0, '1');
        Due.is("5: when it is mended by more bytes", x.motor(0), 3);
        Due.is("5: when it is mended by more bytes", x.motor(1), 1);
    }
}
