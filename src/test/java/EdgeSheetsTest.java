/** Edges of SHEETS and FINDINGS: a test for each sentence, promises 27 to 33. */
public final class EdgeSheetsTest {
    private static final int LEAST = Integer.MIN_VALUE, MOST = Integer.MAX_VALUE;
    private static final int NULL = -11, INDEX = -12, CAST = -13, STORE = -14, SIZE = -15;

    public static void main(String[] args) {
        fourSheets();
        threeForms();
        upToFortyEight();
        zeroAtFirst();
        newRowForOld();
        sizeBelowNothing();
        losing();
        lowestBits();
        itemsThatAreNot();
        castAheadOfIndex();
        nullAheadOfAll();
        gettingTheLeast();
        copying();
        copyingToItself();
        copyingNothing();
        copyingTooMuch();
        copyRefusals();
        writing();
        writingIsRefused();
        counting();
        latestFinding();
        Due.end("EdgeSheetsTest");
    }

    private static ColdMotor laid(int s, int form, int... items) {
        ColdMotor x = new ColdMotor();
        lay(x, s, form, items);
        return x;
    }

    private static void lay(ColdMotor x, int s, int form, int... items) {
        Due.is("sheet", x.sheet(s, form, items.length), items.length);
        for (int i = 0; i < items.length; i++) {
            Due.is("put", x.put(s, form, i, items[i]), 1);
        }
    }

    private static void itemsAre(ColdMotor x, int s, int form, int... want) {
        for (int i = 0; i < want.length; i++) {
            Due.is("item " + i + " of " + s, x.get(s, form, i), want[i]);
        }
    }

    private static void found(ColdMotor x, String call, int answer, int want) {
        Due.is(call, answer, want);
        Due.is("count(8) behind " + call, x.count(8), -10 - want);
    }

    private static void fourSheets() {
        Due.says("SHEETS 0 .. 3 are LOST (at first) or a row of a FORM");
        ColdMotor x = new ColdMotor();
        for (int s = 0; s < 4; s++) {
            found(x, "lose(" + s + ")", x.lose(s), NULL);
            Due.is("sheet", x.sheet(s, s % 3, s + 1), s + 1);
            x.put(s, s % 3, s, 100 + s);
        }
        for (int s = 0; s < 4; s++) {
            Due.is("each has its own", x.get(s, s % 3, s), 100 + s);
            Due.is("lose(" + s + ")", x.lose(s), s + 1);
        }
        for (int s : new int[] {-1, 4, LEAST, MOST}) {
            Due.is("sheet(" + s + ")", x.sheet(s, 0, 0), -2);
            Due.is("lose(" + s + ")", x.lose(s), -2);
            Due.is("put(" + s + ")", x.put(s, 0, 0, 0), -2);
            Due.is("get(" + s + ")", x.get(s, 0, 0), LEAST);
            Due.is("write(0, " + s + ")", x.write(0, s), -2);
            Due.is("read(" + s + ")", x.read(s), -2);
            Due.is("copy from " + s, x.copy(s, 0, 0, 0, 0), -2);
            Due.is("copy to " + s, x.copy(0, 0, s, 0, 0), -2);
        }
    }

    private static void threeForms() {
        Due.says("a row of a FORM: 0 bytes, 1 shorts, 2 ints");
        ColdMotor x = new ColdMotor();
        for (int form : new int[] {-1, 3, LEAST, MOST}) {
            Due.is("sheet of " + form, x.sheet(0, form, 1), -2);
        }
        found(x, "lose(0)", x.lose(0), NULL);
        for (int form = 0; form < 3; form++) {
            Due.is("sheet of " + form, x.sheet(0, form, 1), 1);
            for (int as = -1; as <= 3; as++) {
                int want = as < 0 || as > 2 ? -2 : as == form ? 1 : CAST;
                Due.is("put as " + as + " of " + form, x.put(0, as, 0, 7), want);
                Due.is("get as " + as + " of " + form, x.get(0, as, 0), as == form ? 7 : LEAST);
            }
        }
    }

    private static void upToFortyEight() {
        Due.says("of 0 to 48 items");
        for (int form = 0; form < 3; form++) {
            ColdMotor x = new ColdMotor();
            Due.is("of 48", x.sheet(0, form, 48), 48);
            Due.is("the last", x.put(0, form, 47, 5), 1);
            Due.is("behind the last", x.put(0, form, 48, 5), INDEX);
            Due.is("of 49", x.sheet(0, form, 49), -2);
            Due.is("of the most", x.sheet(0, form, MOST), -2);
            Due.is("it is as it was", x.get(0, form, 47), 5);
            Due.is("of 0", x.sheet(0, form, 0), 0);
            Due.is("none is there", x.put(0, form, 0, 5), INDEX);
            Due.is("lose(0) of 0: it was not LOST", x.lose(0), 0);
            Due.is("of 1", x.sheet(0, form, 1), 1);
            Due.is("the one", x.put(0, form, 0, 5), 1);
            Due.is("behind the one", x.put(0, form, 1, 5), INDEX);
        }
    }

    private static void zeroAtFirst() {
        Due.says("items (0 at first)");
        for (int form = 0; form < 3; form++) {
            ColdMotor x = new ColdMotor();
            x.sheet(2, form, 48);
            itemsAre(x, 2, form, new int[48]);
            for (int i = 0; i < 48; i++) {
                x.put(2, form, i, -1);
            }
            x.lose(2);
            x.sheet(2, form, 48);
            itemsAre(x, 2, form, new int[48]);
        }
    }

    private static void newRowForOld() {
        Due.says("A SHEET is a new row of a FORM with n items: n.");
        ColdMotor x = laid(0, 2, 1, 2, 3);
        Due.is("like the old", x.sheet(0, 2, 3), 3);
        itemsAre(x, 0, 2, 0, 0, 0);
        lay(x, 0, 2, 1, 2, 3);
        Due.is("shorter", x.sheet(0, 2, 1), 1);
        itemsAre(x, 0, 2, 0);
        found(x, "put", x.put(0, 2, 1, 0), INDEX);
        Due.is("longer again", x.sheet(0, 2, 3), 3);
        itemsAre(x, 0, 2, 0, 0, 0);
        Due.is("of another FORM", x.sheet(0, 0, 3), 3);
        found(x, "put", x.put(0, 2, 0, 0), CAST);
        itemsAre(x, 0, 0, 0, 0, 0);
    }

    private static void sizeBelowNothing() {
        Due.says("5 SIZE: below 0");
        ColdMotor x = laid(0, 1, 4, 5);
        found(x, "sheet(0, 1, -1)", x.sheet(0, 1, -1), SIZE);
        found(x, "sheet(0, 2, least)", x.sheet(0, 2, LEAST), SIZE);
        itemsAre(x, 0, 1, 4, 5);
        found(x, "sheet(1, 1, -1)", x.sheet(1, 1, -1), SIZE);
        found(x, "it is LOST yet", x.lose(1), NULL);
        Due.says("BAD: SHEET, FORM, above 48; SIZE");
        Due.is("no such SHEET, and below 0", x.sheet(4, 0, -1), -2);
        Due.is("no such SHEET, and below 0", x.sheet(-1, 0, LEAST), -2);
        Due.is("no such FORM, and below 0", x.sheet(0, 3, -1), -2);
        Due.is("no such FORM, and below 0", x.sheet(0, -1, LEAST), -2);
        Due.is("no such SHEET, and above 48", x.sheet(4, 0, 49), -2);
        Due.is("BAD is no finding", x.count(8), 1);
    }

    private static void losing() {
        Due.says("It is LOST: how many items it had. BAD; NULL.");
        for (int n = 0; n <= 48; n += 16) {
            ColdMotor x = new ColdMotor();
            x.sheet(3, 0, n);
            Due.is("lose(3) of " + n, x.lose(3), n);
            found(x, "lose(3) again", x.lose(3), NULL);
            found(x, "read(3)", x.read(3), NULL);
            found(x, "write(0, 3)", x.write(0, 3), NULL);
            found(x, "put", x.put(3, 0, 0, 0), NULL);
            Due.is("another may be laid", x.sheet(3, 2, 1), 1);
        }
    }

    private static void lowestBits() {
        Due.says("becomes v (the lowest bits that it has, with its sign");
        int[][] rows = {{0, 0, 0}, {127, 127, 127}, {128, -128, 128}, {129, -127, 129}, {255, -1, 255}, {256, 0, 256},
            {-1, -1, -1}, {-128, -128, -128}, {-129, 127, -129}, {-256, 0, -256}, {32767, -1, 32767},
            {32768, 0, -32768}, {32769, 1, -32767}, {65535, -1, -1}, {65536, 0, 0}, {-32768, 0, -32768},
            {-32769, -1, 32767}, {MOST, -1, -1}, {LEAST, 0, 0}, {LEAST + 1, 1, 1}};
        ColdMotor x = new ColdMotor();
        for (int form = 0; form < 3; form++) {
            x.sheet(form, form, 2);
        }
        for (int[] row : rows) {
            for (int form = 0; form < 3; form++) {
                Due.is("put " + row[0], x.put(form, form, 1, row[0]), 1);
                Due.is("form " + form + " of " + row[0], x.get(form, form, 1), form == 0 ? row[1] : form == 1 ? row[2] : row[0]);
                Due.is("its neighbour", x.get(form, form, 0), 0);
            }
        }
    }

    private static void itemsThatAreNot() {
        Due.says("2 INDEX: there is no such item");
        for (int n = 0; n < 3; n++) {
            ColdMotor x = laid(0, 0, new int[n]);
            for (int i : new int[] {LEAST, -1, n, n + 1, 48, MOST}) {
                found(x, "put at " + i + " of " + n, x.put(0, 0, i, 1), INDEX);
                Due.is("get at " + i + " of " + n, x.get(0, 0, i), LEAST);
                Due.is("count(8)", x.count(8), 2);
            }
            itemsAre(x, 0, 0, new int[n]);
        }
    }

    private static void castAheadOfIndex() {
        Due.says("BAD; NULL; CAST; INDEX.");
        ColdMotor x = laid(0, 1, 6);
        for (int i : new int[] {-1, 0, 1, LEAST, MOST}) {
            found(x, "put as bytes at " + i, x.put(0, 0, i, 1), CAST);
            found(x, "put as ints at " + i, x.put(0, 2, i, 1), CAST);
        }
        found(x, "put at 1", x.put(0, 1, 1, 1), INDEX);
        Due.is("get as ints at 1", x.get(0, 2, 1), LEAST);
        Due.is("count(8)", x.count(8), 3);
        itemsAre(x, 0, 1, 6);
    }

    private static void nullAheadOfAll() {
        Due.says("1 NULL: the SHEET is LOST");
        ColdMotor x = new ColdMotor();
        for (int form = 0; form < 3; form++) {
            for (int i : new int[] {-1, 0, 48, LEAST, MOST}) {
                found(x, "put", x.put(1, form, i, 0), NULL);
                Due.is("get", x.get(1, form, i), LEAST);
                Due.is("count(8)", x.count(8), 1);
            }
        }
        Due.is("BAD ahead of NULL: FORM", x.put(1, 3, 0, 0), -2);
        Due.is("BAD ahead of NULL: FORM", x.put(1, -1, 0, 0), -2);
        Due.is("BAD ahead of NULL: SET", x.write(32, 1), -2);
        Due.is("BAD ahead of NULL: SET", x.write(-1, 1), -2);
    }

    private static void gettingTheLeast() {
        Due.says("BAD: the least int; so are NULL, CAST, INDEX (count() 8 tells).");
        ColdMotor x = laid(0, 2, LEAST, MOST);
        Due.is("the least may be an item", x.get(0, 2, 0), LEAST);
        Due.is("count(8) tells", x.count(8), 0);
        int[][] calls = {{1, 2, 0, 1}, {0, 1, 0, 3}, {0, 2, 2, 2}, {0, 2, -1, 2}, {0, 0, 9, 3}};
        for (int[] c : calls) {
            Due.is("get", x.get(c[0], c[1], c[2]), LEAST);
            Due.is("count(8)", x.count(8), c[3]);
            Due.is("BAD", x.get(4, 0, 0), LEAST);
            Due.is("BAD", x.get(0, 3, 0), LEAST);
            Due.is("count(8) behind BAD", x.count(8), c[3]);
            Due.is("well", x.get(0, 2, 1), MOST);
            Due.is("count(8) behind what is well", x.count(8), c[3]);
        }
    }

    private static void copying() {
        Due.says("n items of SHEET s, from i on, come to SHEET t .., from j on: 1.");
        for (int form = 0; form < 3; form++) {
            ColdMotor x = laid(0, form, 1, 2, 3, 4);
            lay(x, 1, form, 5, 6, 7);
            Due.is("one, first to last", x.copy(0, 0, 1, 2, 1), 1);
            itemsAre(x, 1, form, 5, 6, 1);
            Due.is("one, last to first", x.copy(0, 3, 1, 0, 1), 1);
            itemsAre(x, 1, form, 4, 6, 1);
            Due.is("all that there is room for", x.copy(0, 1, 1, 0, 3), 1);
            itemsAre(x, 1, form, 2, 3, 4);
            Due.is("all", x.copy(1, 0, 0, 0, 3), 1);
            itemsAre(x, 0, form, 2, 3, 4, 4);
            Due.is("no finding", x.count(8), 0);
        }
        ColdMotor y = new ColdMotor();
        y.sheet(0, 2, 48);
        y.sheet(1, 2, 48);
        y.put(0, 2, 0, 8);
        y.put(0, 2, 47, 9);
        Due.is("48 items", y.copy(0, 0, 1, 0, 48), 1);
        Due.is("the first", y.get(1, 2, 0), 8);
        Due.is("the last", y.get(1, 2, 47), 9);
        Due.is("49 items", y.copy(0, 0, 1, 0, 49), INDEX);
    }

    private static void copyingToItself() {
        Due.says("(perhaps s, as they were)");
        for (int form = 0; form < 3; form++) {
            ColdMotor on = laid(0, form, 1, 2, 3, 4, 5);
            Due.is("on by one", on.copy(0, 0, 0, 1, 4), 1);
            itemsAre(on, 0, form, 1, 1, 2, 3, 4);
            ColdMotor back = laid(0, form, 1, 2, 3, 4, 5);
            Due.is("back by one", back.copy(0, 1, 0, 0, 4), 1);
            itemsAre(back, 0, form, 2, 3, 4, 5, 5);
            Due.is("to the same place", back.copy(0, 0, 0, 0, 5), 1);
            itemsAre(back, 0, form, 2, 3, 4, 5, 5);
        }
    }

    private static void copyingNothing() {
        Due.says("(of n 0, too: i or j above the size)");
        ColdMotor x = laid(0, 0, 1, 2, 3);
        lay(x, 1, 0, 4, 5);
        lay(x, 2, 0);
        Due.is("at the ends", x.copy(0, 3, 1, 2, 0), 1);
        Due.is("at the beginnings", x.copy(0, 0, 1, 0, 0), 1);
        Due.is("of none", x.copy(2, 0, 2, 0, 0), 1);
        found(x, "i above the size", x.copy(0, 4, 1, 0, 0), INDEX);
        x.lose(3);
        found(x, "j above the size", x.copy(0, 0, 1, 3, 0), INDEX);
        found(x, "i above nothing", x.copy(2, 1, 0, 0, 0), INDEX);
        found(x, "j above nothing", x.copy(0, 0, 2, 1, 0), INDEX);
        found(x, "i below 0", x.copy(0, -1, 1, 0, 0), INDEX);
        found(x, "j below 0", x.copy(0, 0, 1, -1, 0), INDEX);
        itemsAre(x, 0, 0, 1, 2, 3);
        itemsAre(x, 1, 0, 4, 5);
    }

    private static void copyingTooMuch() {
        Due.says("INDEX: i, j or n below 0, not so many there");
        ColdMotor x = laid(0, 1, 1, 2, 3);
        lay(x, 1, 1, 4, 5);
        int[][] wrong = {{0, 0, 3}, {2, 0, 2}, {3, 0, 1}, {0, 1, 2}, {0, 2, 1}, {0, 0, -1}, {-1, 0, 1}, {0, -1, 1},
            {3, 2, -1}, {1, 1, -1}, {MOST, 0, 1}, {0, MOST, 1}, {0, 0, MOST}, {1, 0, MOST}, {0, 1, MOST},
            {MOST, MOST, MOST}, {LEAST, 0, 1}, {0, LEAST, 1}, {0, 0, LEAST}, {LEAST, LEAST, LEAST},
            {1, 1, LEAST}, {MOST, 0, LEAST}, {0, MOST, LEAST}, {MOST, 0, 0}, {0, MOST, 0}, {LEAST, 0, MOST}};
        for (int[] w : wrong) {
            x.lose(3);
            found(x, "copy(0, " + w[0] + ", 1, " + w[1] + ", " + w[2] + ")", x.copy(0, w[0], 1, w[1], w[2]), INDEX);
            itemsAre(x, 0, 1, 1, 2, 3);
            itemsAre(x, 1, 1, 4, 5);
        }
    }

    private static void copyRefusals() {
        Due.says("BAD: the SHEETS; NULL: s, t; STORE; INDEX");
        ColdMotor x = laid(0, 0, 1);
        lay(x, 1, 1, 2);
        lay(x, 2, 2, 3);
        Due.is("BAD ahead of NULL", x.copy(3, 0, 4, 0, 0), -2);
        Due.is("BAD ahead of NULL", x.copy(4, 0, 3, 0, 0), -2);
        Due.is("BAD ahead of INDEX", x.copy(0, -1, -1, -1, -1), -2);
        Due.is("BAD is no finding", x.count(8), 0);
        found(x, "NULL: t", x.copy(0, 0, 3, 0, 1), NULL);
        for (int[] st : new int[][] {{0, 1}, {0, 2}, {1, 0}, {1, 2}, {2, 0}, {2, 1}}) {
            found(x, "STORE", x.copy(st[0], 0, st[1], 0, 1), STORE);
            found(x, "STORE of none", x.copy(st[0], 0, st[1], 0, 0), STORE);
            found(x, "STORE ahead of INDEX", x.copy(st[0], -1, st[1], 2, MOST), STORE);
        }
        found(x, "NULL: s, ahead of INDEX", x.copy(3, -1, 0, -1, -1), NULL);
        found(x, "NULL: t, ahead of INDEX", x.copy(0, -1, 3, -1, -1), NULL);
        found(x, "NULL: both", x.copy(3, 0, 3, 0, 0), NULL);
        itemsAre(x, 0, 0, 1);
        itemsAre(x, 1, 1, 2);
        itemsAre(x, 2, 2, 3);
    }

    private static void writing() {
        Due.says("SIGNS of ACTS that were SEEN, .. from item 0 on, as many as there are items and ACTS: how many.");
        for (int form = 0; form < 3; form++) {
            ColdMotor x = laid(0, form, 70, 71, 72);
            Due.retype(x, 0, "c0");
            Due.is("nothing SEEN", x.write(8, 0), 0);
            itemsAre(x, 0, form, 70, 71, 72);
            x.see(0, 6);
            Due.is("one", x.write(8, 0), 1);
            itemsAre(x, 0, form, 1, 71, 72);
            x.see(9, 6);
            x.see(0, 6);
            Due.is("as many ACTS as items", x.write(8, 0), 3);
            itemsAre(x, 0, form, 1, 0, 2);
            x.see(5, 6);
            Due.is("more ACTS than items", x.write(8, 0), 3);
            Due.is("with another SET", x.write(0, 0), 3);
            itemsAre(x, 0, form, 2, 4, 4);
            Due.is("with SET 31", x.write(31, 0), 3);
            itemsAre(x, 0, form, 0, 0, 0);
            x.sheet(1, form, 0);
            Due.is("no items", x.write(0, 1), 0);
        }
        ColdMotor y = Due.motor("m24;b30;c0;d3");
        y.sheet(3, 0, 48);
        for (int i = 0; i < 24; i++) {
            y.see(0, 0);
        }
        Due.is("24 of 48", y.write(0, 3), 24);
        Due.is("the last SIGN", y.get(3, 0, 23), 1);
        Due.is("behind it", y.get(3, 0, 24), 0);
        y.sheet(3, 0, 24);
        Due.is("24 of 24", y.write(0, 3), 24);
        y.sheet(3, 0, 23);
        Due.is("23 of 23", y.write(0, 3), 23);
    }

    private static void writingIsRefused() {
        Due.says("how many. BAD; NULL.");
        ColdMotor x = laid(0, 0, 5);
        x.see(0, 0);
        Due.is("write(-1, 0)", x.write(-1, 0), -2);
        Due.is("write(32, 0)", x.write(32, 0), -2);
        Due.is("write(0, -1)", x.write(0, -1), -2);
        Due.is("write(0, 4)", x.write(0, 4), -2);
        Due.is("BAD is no finding", x.count(8), 0);
        itemsAre(x, 0, 0, 5);
        found(x, "write(0, 1)", x.write(0, 1), NULL);
        Due.is("write(31, 0)", x.write(31, 0), 1);
    }

    private static void counting() {
        Due.says("0, 1 bytes of texts, 2 how many are SEEN, 3 .., 4 MORNINGS, 5 .., 6 .., 7 .., 8 ..");
        ColdMotor x = new ColdMotor();
        int[] atFirst = {0, 0, 0, 32, 0, 15, 0, 0, 0};
        for (int what = 0; what < 9; what++) {
            Due.is("count(" + what + ") at first", x.count(what), atFirst[what]);
        }
        for (int what : new int[] {-1, 9, LEAST, MOST}) {
            Due.is("count(" + what + ")", x.count(what), -2);
        }
        Due.retype(x, 0, "p1;".repeat(20));
        Due.retype(x, 1, "3*9,".repeat(9) + "3*9");
        for (int i = 0; i < 24; i++) {
            x.see(4, 1);
        }
        for (int i = 0; i < 16; i++) {
            x.morning(0, 0, 30);
        }
        for (int t = 0; t < 5; t++) {
            x.ahead(t, 16);
        }
        int[] full = {60, 39, 24, 0, 16, 80, 90, 480, 0};
        for (int what = 0; what < 9; what++) {
            Due.is("count(" + what + ") at full", x.count(what), full[what]);
        }
        x.type(1, ',');
        Due.is("ACTS of the HABIT (0 with a FAULT)", x.count(6), 0);
        Due.is("its bytes", x.count(1), 40);
    }

    private static void latestFinding() {
        Due.says("8 the number of the latest FINDING (0 before any)");
        ColdMotor x = laid(0, 0, 1);
        lay(x, 1, 1, 1);
        Due.is("before any", x.count(8), 0);
        Due.is("SIZE", x.sheet(2, 0, -1), SIZE);
        Due.is("5", x.count(8), 5);
        Due.is("STORE", x.copy(0, 0, 1, 0, 1), STORE);
        Due.is("4", x.count(8), 4);
        Due.is("CAST", x.put(0, 1, 0, 1), CAST);
        Due.is("3", x.count(8), 3);
        Due.is("INDEX", x.put(0, 0, 1, 1), INDEX);
        Due.is("2", x.count(8), 2);
        Due.is("NULL", x.lose(3), NULL);
        Due.is("1", x.count(8), 1);
        // other refusals and what is well leave it
        Due.is("NOT", x.back(), -3);
        Due.is("BAD", x.lose(4), -2);
        Due.is("well", x.lose(1), 1);
        Due.is("1 yet", x.count(8), 1);
        Due.is("nothing wipes it", x.sheet(1, 0, 1) + x.wipe(0) + x.wipe(1), 1);
        Due.is("1 yet", x.count(8), 1);
    }
}
