/** Edges of what the document says of the two texts: a test for each sentence, promises 1 to 5. */
public final class EdgeTextsTest {
    private static final String LETTERS = "pstdcbm";
    private static final int[] MOST = {9, 9, 20, 9, 9, 30, 99};
    private static final int[] AT_FIRST = {7, 6, 10, 4, 4, 12, 60};
    private static final String SIXTY = "p1;".repeat(19) + "m99";
    private static final String FORTY = "3*9,".repeat(9) + "0*9";

    public static void main(String[] args) {
        newObject();
        bytes();
        sixtyBytes();
        fortyBytes();
        wipeAtNothingAndAtFull();
        partsOfMotor();
        letters();
        figures();
        ranges();
        likeLetters();
        withoutAPart();
        faultIsTheFirst();
        emptyIsWell();
        notEnded();
        withAFault();
        actsOfHabit();
        timesOfHabit();
        partsOfHabit();
        habitNotEnded();
        Due.end("EdgeTextsTest");
    }

    private static void faultIs(int text, String bytes, int want) {
        ColdMotor x = new ColdMotor();
        Due.retype(x, text, bytes);
        Due.is("fault(" + text + ") of " + bytes, x.fault(text), want);
    }

    private static void newObject() {
        Due.says("Empty texts, nothing SEEN; all SHEETS are LOST.");
        ColdMotor x = new ColdMotor();
        Due.is("wipe(0)", x.wipe(0), 0);
        Due.is("wipe(1)", x.wipe(1), 0);
        Due.is("back()", x.back(), -3);
        Due.is("fits(0)", x.fits(0), -3);
        Due.is("count(8)", x.count(8), 0);
        for (int s = 0; s < 4; s++) {
            Due.is("read(" + s + ")", x.read(s), -11);
            Due.is("write(0, " + s + ")", x.write(0, s), -11);
            for (int form = 0; form < 3; form++) {
                Due.is("put(" + s + ", " + form + ", 0, 0)", x.put(s, form, 0, 0), -11);
            }
        }
    }

    private static void bytes() {
        Due.says("A byte (0 to 255) comes behind a text: the MOTOR 0, the HABIT 1: how many.");
        for (int text = 0; text < 2; text++) {
            ColdMotor x = new ColdMotor();
            Due.is("type(" + text + ", -1)", x.type(text, -1), -2);
            Due.is("type(" + text + ", 0)", x.type(text, 0), 1);
            Due.is("type(" + text + ", 255)", x.type(text, 255), 2);
            Due.is("type(" + text + ", 256)", x.type(text, 256), -2);
            // 368 has the lowest eight bits of a p, 304 those of a 0
            Due.is("type(" + text + ", 368)", x.type(text, 368), -2);
            Due.is("type(" + text + ", 304)", x.type(text, 304), -2);
            Due.is("count(" + text + ")", x.count(text), 2);
            Due.is("the other text", x.count(1 - text), 0);
        }
        ColdMotor x = new ColdMotor();
        Due.is("type(-1, 48)", x.type(-1, 48), -2);
        Due.is("type(2, 48)", x.type(2, 48), -2);
    }

    private static void sixtyBytes() {
        Due.says("A MOTOR is a text of up to 60 bytes");
        ColdMotor x = Due.motor(SIXTY);
        Due.is("count(0)", x.count(0), 60);
        Due.is("the last part counts", x.motor(6), 99);
        Due.is("the last part but one", x.motor(0), 1);
        Due.is("fault(0)", x.fault(0), -1);
        Due.is("type(0, ';')", x.type(0, ';'), -4);
        Due.is("fault(0) behind FULL", x.fault(0), -1);
        Due.is("motor(6) behind FULL", x.motor(6), 99);
        Due.is("count(0) behind FULL", x.count(0), 60);
        Due.is("the HABIT is not full", x.type(1, '0'), 1);
        ColdMotor y = Due.motor(SIXTY.substring(0, 59));
        Due.is("of 59 bytes", y.motor(6), 9);
        Due.is("type(0, '9') is the 60th", y.type(0, '9'), 60);
        Due.is("of 60 bytes", y.motor(6), 99);
        Due.is("wipe(0)", y.wipe(0), 60);
        Due.is("there is room again", y.type(0, 'p'), 1);
    }

    private static void fortyBytes() {
        Due.says("A HABIT is a text of up to 40 bytes");
        ColdMotor x = new ColdMotor();
        Due.retype(x, 1, FORTY);
        // ten parts of three bytes and nine commas are 39
        Due.is("count(1)", x.count(1), 39);
        Due.is("count(6)", x.count(6), 90);
        Due.is("type(1, ',') is the 40th", x.type(1, ','), 40);
        Due.is("fault(1)", x.fault(1), 40);
        Due.is("type(1, '1')", x.type(1, '1'), -4);
        Due.is("fault(1) behind FULL", x.fault(1), 40);
        Due.is("the MOTOR is not full", x.type(0, 'p'), 1);
        // one that is well has an odd length, so that 39 bytes are the longest
        Due.retype(x, 1, "1,2,3,4,5,6,7,8,9,0,1,2,3,4,5,6,7,8,9*4");
        Due.is("of 39 bytes: count(1)", x.count(1), 39);
        Due.is("of 39 bytes: the last part counts", x.count(6), 22);
        Due.is("type(1, 255) is the 40th", x.type(1, 255), 40);
        Due.is("fault(1) of 40 bytes", x.fault(1), 39);
        Due.is("type(1, ',') is the 41st", x.type(1, ','), -4);
        Due.is("count(1) behind FULL", x.count(1), 40);
        Due.is("wipe(1)", x.wipe(1), 40);
        Due.is("there is room again", x.type(1, '1'), 1);
    }

    private static void wipeAtNothingAndAtFull() {
        Due.says("A text is empty: how many bytes it had.");
        ColdMotor x = Due.motor(SIXTY);
        Due.retype(x, 1, "1,".repeat(20));
        Due.is("wipe(-1)", x.wipe(-1), -2);
        Due.is("wipe(2)", x.wipe(2), -2);
        Due.is("wipe(1) at full", x.wipe(1), 40);
        Due.is("the MOTOR stays", x.motor(6), 99);
        Due.is("wipe(1) at nothing", x.wipe(1), 0);
        Due.is("wipe(0) at full", x.wipe(0), 60);
        Due.is("wipe(0) at nothing", x.wipe(0), 0);
        Due.is("motor(6)", x.motor(6), 60);
        Due.is("fault(1)", x.fault(1), -1);
        // a byte that stood behind it before is not there: p1, 1*2
        x.type(0, 't');
        Due.is("fault(0) of t, where p1 was", x.fault(0), 1);
        x.type(0, '2');
        Due.is("motor(2) of t2", x.motor(2), 2);
        Due.is("fault(0) of t2", x.fault(0), -1);
        Due.retype(x, 1, "1*2");
        Due.retype(x, 1, "3");
        Due.is("count(6) of 3, where 1*2 was", x.count(6), 1);
        x.type(1, '*');
        Due.is("fault(1) of 3*, where 1*2 was", x.fault(1), 2);
    }

    private static void partsOfMotor() {
        Due.says("parts with ; between them");
        faultIs(0, "p1", -1);
        faultIs(0, "p1;s1", -1);
        faultIs(0, ";p1", 0);
        faultIs(0, "p1;;s1", 3);
        faultIs(0, "p1s1", 2);
        for (int b = 0; b < 256; b++) {
            boolean goesOn = b == ';';
            faultIs(0, "t20" + (char) b, goesOn ? 4 : 3);
            faultIs(0, "t20" + (char) b + "s1", goesOn ? -1 : 3);
        }
    }

    private static void letters() {
        Due.says("a letter and a number");
        for (int b = 0; b < 256; b++) {
            boolean goesOn = LETTERS.indexOf(b) >= 0;
            faultIs(0, "" + (char) b, goesOn ? 1 : 0);
            faultIs(0, (char) b + "1", goesOn ? -1 : 0);
            faultIs(0, "m99;" + (char) b + "1", goesOn ? -1 : 4);
        }
    }

    private static void figures() {
        Due.says("a number (one or two figures)");
        for (int b = 0; b < 256; b++) {
            boolean figure = b >= '0' && b <= '9';
            faultIs(0, "m" + (char) b, figure ? -1 : 1);
            // the second may also be a figure or a ;
            faultIs(0, "m1" + (char) b, figure ? -1 : b == ';' ? 3 : 2);
        }
        faultIs(0, "m001", 3);
        faultIs(0, "m000", 3);
        faultIs(0, "m999", 3);
        faultIs(0, "m", 1);
        faultIs(0, "m;1", 1);
    }

    private static void ranges() {
        Due.says("p PRESS (0 to 9), s SPARK (0 to 9), t TIME (0 to 20), d DRAW (0 to 9), c COLD (0 to 9), "
            + "b BATTERY (0 to 30), m LIGHT (0 to 99 MINUTES)");
        for (int what = 0; what < 7; what++) {
            for (int number = 0; number < 100; number++) {
                String two = LETTERS.charAt(what) + (number < 10 ? "0" : "") + number;
                boolean may = number <= MOST[what];
                ColdMotor x = Due.motor("p1;" + two);
                Due.is("fault(0) of p1;" + two, x.fault(0), may ? -1 : 4);
                Due.is("motor(" + what + ") of p1;" + two, x.motor(what), may ? number : AT_FIRST[what]);
                if (number < 10) {
                    ColdMotor y = Due.motor(LETTERS.charAt(what) + "" + number);
                    Due.is("motor(" + what + ") of " + number, y.motor(what), number);
                }
            }
        }
        ColdMotor x = new ColdMotor();
        Due.is("motor(-1)", x.motor(-1), -2);
        Due.is("motor(7)", x.motor(7), -2);
    }

    private static void likeLetters() {
        Due.says("Of like letters the last is so");
        for (int what = 0; what < 7; what++) {
            char letter = LETTERS.charAt(what);
            String most = "" + letter + MOST[what];
            String least = letter + "0";
            Due.is("the last is least", Due.motor(most + ";" + least).motor(what), 0);
            Due.is("the last is most", Due.motor(least + ";" + most).motor(what), MOST[what]);
            Due.is("of three", Due.motor(most + ";" + least + ";" + letter + "5").motor(what), 5);
        }
        ColdMotor x = Due.motor("p1;s2;p3;s4");
        Due.is("with others between", x.motor(0), 3);
        Due.is("with others between", x.motor(1), 4);
        Due.is("as at first once more", Due.motor("p1;p7").motor(0), 7);
    }

    private static void withoutAPart() {
        Due.says("one without a part is as at first: 7, 6, 10, 4, 4, 12, 60");
        for (int part = -1; part < 7; part++) {
            ColdMotor x = Due.motor(part < 0 ? "" : LETTERS.charAt(part) + "0");
            for (int what = 0; what < 7; what++) {
                Due.is("motor(" + what + ")", x.motor(what), what == part ? 0 : AT_FIRST[what]);
            }
        }
    }

    private static void faultIsTheFirst() {
        Due.says("The FAULT is the place of the first byte with which it cannot go on, or of the first figure "
            + "of a number that may not be");
        faultIs(0, "p10;x", 1);
        faultIs(0, "p9;x;p10", 3);
        faultIs(0, "t21", 1);
        faultIs(0, "t1;t21;q", 4);
        faultIs(0, "b30;b31", 5);
        // two figures of a number that may not be come ahead of what follows them
        faultIs(0, "p10x", 1);
        faultIs(0, "p100", 1);
        // of a number that may be, what follows
        faultIs(0, "p09x", 3);
        faultIs(0, "p099", 3);
        faultIs(0, SIXTY.substring(0, 57) + "p10", 58);
        faultIs(0, SIXTY.substring(0, 57) + "p1 ", 59);
        ColdMotor x = Due.motor("t2");
        Due.is("t2", x.fault(0), -1);
        x.type(0, '1');
        Due.is("t21", x.fault(0), 1);
        x.type(0, ';');
        Due.is("t21;", x.fault(0), 1);
        Due.is("fault(-1)", x.fault(-1), -2);
        Due.is("fault(2)", x.fault(2), -2);
    }

    private static void emptyIsWell() {
        Due.says("an empty text is well");
        ColdMotor x = new ColdMotor();
        Due.is("fault(0)", x.fault(0), -1);
        Due.is("fault(1)", x.fault(1), -1);
        x.type(0, ';');
        x.type(1, ',');
        Due.is("fault(0) of ;", x.fault(0), 0);
        Due.is("fault(1) of ,", x.fault(1), 0);
        x.wipe(0);
        x.wipe(1);
        Due.is("fault(0) when wiped", x.fault(0), -1);
        Due.is("fault(1) when wiped", x.fault(1), -1);
    }

    private static void notEnded() {
        Due.says("of one that is not ended, its end");
        for (int what = 0; what < 7; what++) {
            char letter = LETTERS.charAt(what);
            faultIs(0, "" + letter, 1);
            faultIs(0, letter + "1;", 3);
            faultIs(0, letter + "01;", 4);
            faultIs(0, letter + "1;" + letter, 4);
        }
        faultIs(0, "p1;".repeat(20), 60);
        faultIs(0, "p1;".repeat(19) + "p1", -1);
        faultIs(0, "p1;".repeat(18) + "p01;p", 59);
        faultIs(0, "p1;".repeat(17) + "p01;p01;p", 60);
    }

    private static void withAFault() {
        Due.says("With a FAULT it is as if it was empty.");
        String[] wrong = {"p9;s9;t20;d9;c9;b30;m99;", "p9;s9;t20;d9;c9;b30;m99x", "p9;s9;t20;d9;c9;m99;b31", "x"};
        for (String text : wrong) {
            ColdMotor x = Due.motor(text);
            for (int what = 0; what < 7; what++) {
                Due.is("motor(" + what + ") of " + text, x.motor(what), AT_FIRST[what]);
            }
            Due.is("its bytes are there", x.count(0), text.length());
            Due.is("BATTERY of the STATE", x.state(0, 0), 12);
            Due.is("LIGHT of the STATE", x.state(0, 1), 60);
            Due.is("with CHOKE 1 it RUNS", x.sign(0, 1), 2);
        }
        ColdMotor x = Due.motor("p9;s9;t20;d9;c9;b30;m99;");
        x.type(0, 'p');
        x.type(0, '0');
        Due.is("it goes on: fault(0)", x.fault(0), -1);
        Due.is("it goes on: motor(0)", x.motor(0), 0);
        Due.is("it goes on: motor(6)", x.motor(6), 99);
        ColdMotor y = new ColdMotor();
        Due.retype(y, 1, "1,");
        Due.is("a HABIT with a FAULT has no ACTS", y.count(6), 0);
        y.type(1, '1');
        Due.is("it goes on", y.count(6), 2);
    }

    private static void actsOfHabit() {
        Due.says("an ACT (a figure)");
        for (int b = 0; b < 256; b++) {
            boolean figure = b >= '0' && b <= '9';
            faultIs(1, "" + (char) b, figure ? -1 : 0);
            faultIs(1, "1," + (char) b, figure ? -1 : 2);
        }
    }

    private static void timesOfHabit() {
        Due.says("perhaps * and a figure (2 to 9): so often");
        for (int b = 0; b < 256; b++) {
            boolean may = b >= '2' && b <= '9';
            faultIs(1, "5*" + (char) b, may ? -1 : 2);
            faultIs(1, "1*2,5*" + (char) b + ",1", may ? -1 : 6);
            ColdMotor x = new ColdMotor();
            Due.retype(x, 1, "5*" + (char) b);
            Due.is("count(6) of 5*" + (char) b, x.count(6), may ? b - '0' : 0);
        }
        faultIs(1, "5*2*2", 3);
        faultIs(1, "5**2", 2);
        faultIs(1, "5*22", 3);
        faultIs(1, "*5", 0);
    }

    private static void partsOfHabit() {
        Due.says("parts with , between them");
        for (int b = 0; b < 256; b++) {
            boolean goesOn = b == ',';
            faultIs(1, "1" + (char) b + "2", goesOn || b == '*' ? -1 : 1);
            faultIs(1, "1*2" + (char) b + "2", goesOn ? -1 : 3);
        }
        faultIs(1, ",1", 0);
        faultIs(1, "1,,2", 2);
        faultIs(1, "12", 1);
    }

    private static void habitNotEnded() {
        Due.says("The FAULT likewise (an empty text is well: nothing is done).");
        faultIs(1, "1,", 2);
        faultIs(1, "1*", 2);
        faultIs(1, "1*2,", 4);
        faultIs(1, "1,".repeat(20), 40);
        faultIs(1, "1,".repeat(19) + "1", -1);
        faultIs(1, "1,".repeat(19) + "1*", 40);
        ColdMotor x = new ColdMotor();
        Due.is("of an empty one: chance above", x.habit(0, 0), 0);
        Due.is("of an empty one: chance below", x.habit(0, 1), 1);
        Due.is("of an empty one: mean above", x.habit(1, 0), 0);
        Due.is("of an empty one: mean below", x.habit(1, 1), 1);
        Due.is("of an empty one: has(NONE)", x.has(-1), 0);
        Due.is("of an empty one: work(2)", x.work(2), 0);
        Due.is("of an empty one: count(6)", x.count(6), 0);
    }
}
