/** Promises 27 to 33: sheet, lose, put, get, copy, write, count. */
public final class SheetsTest {
    private static final int LEAST = Integer.MIN_VALUE;

    public static void main(String[] args) {
        sheet();
        lose();
        put();
        get();
        copy();
        copyRefusals();
        write();
        count();
        Due.end("SheetsTest");
    }

    private static void sheet() {
        ColdMotor x = new ColdMotor();
        int[][] bad = {{-1, 0, 0}, {4, 0, 0}, {0, -1, 0}, {0, 3, 0}, {0, 0, 49}, {-1, 0, -1}, {0, 3, -1}, {0, 0, Integer.MAX_VALUE}};
        for (int[] b : bad) {
            Due.is("27: BAD", x.sheet(b[0], b[1], b[2]), -2);
        }
        Due.is("27: BAD is no finding", x.count(8), 0);
        Due.is("27: SIZE", x.sheet(0, 0, -1), -15);
        Due.is("27: SIZE", x.count(8), 5);
        Due.is("27: SIZE", x.sheet(0, 0, LEAST), -15);
        Due.is("27: it is lost yet", x.lose(0), -11);
        Due.is("27: of none", x.sheet(0, 0, 0), 0);
        Due.is("27: of 48", x.sheet(1, 2, 48), 48);
        for (int i = 0; i < 48; i++) {
            Due.is("27: items are 0", x.get(1, 2, i), 0);
            x.put(1, 2, i, i + 1);
        }
        Due.is("27: SIZE changes nothing", x.sheet(1, 0, -1), -15);
        Due.is("27: SIZE changes nothing", x.get(1, 2, 47), 48);
        Due.is("27: a new one", x.sheet(1, 2, 3), 3);
        Due.is("27: a new one", x.get(1, 2, 0), 0);
        Due.is("27: a new one", x.get(1, 2, 3), LEAST);
        x.sheet(1, 2, 48);
        Due.is("27: items are 0 again", x.get(1, 2, 47), 0);
        Due.is("27: of another form", x.sheet(1, 1, 2), 2);
        Due.is("27: of another form", x.put(1, 2, 0, 1), -13);
    }

    private static void lose() {
        ColdMotor x = new ColdMotor();
        Due.is("28: BAD", x.lose(-1), -2);
        Due.is("28: BAD", x.lose(4), -2);
        Due.is("28: BAD is no finding", x.count(8), 0);
        for (int s = 0; s < 4; s++) {
            Due.is("28: NULL", x.lose(s), -11);
            x.sheet(s, s % 3, 10 * s);
        }
        Due.is("28: NULL", x.count(8), 1);
        for (int s = 0; s < 4; s++) {
            Due.is("28: lose", x.lose(s), 10 * s);
            Due.is("28: lose again", x.lose(s), -11);
        }
    }

    private static void put() {
        ColdMotor x = new ColdMotor();
        int[][] bad = {{-1, 0}, {4, 0}, {0, -1}, {0, 3}};
        for (int[] b : bad) {
            Due.is("29: BAD", x.put(b[0], b[1], 0, 0), -2);
        }
        Due.is("29: BAD is no finding", x.count(8), 0);
        Due.is("29: NULL", x.put(0, 0, 99, 0), -11);
        Due.is("29: NULL", x.count(8), 1);
        x.sheet(0, 0, 3);
        Due.is("29: CAST ahead of INDEX", x.put(0, 1, 3, 0), -13);
        Due.is("29: CAST", x.put(0, 2, 0, 0), -13);
        Due.is("29: CAST", x.count(8), 3);
        int[] wrong = {-1, 3, LEAST, Integer.MAX_VALUE};
        for (int i : wrong) {
            Due.is("29: INDEX", x.put(0, 0, i, 0), -12);
        }
        Due.is("29: INDEX", x.count(8), 2);
        x.sheet(1, 1, 3);
        x.sheet(2, 2, 3);
        int[] values = {0, 127, 128, -128, -129, 255, 256, 32767, 32768, -32768, -32769, 65535, Integer.MAX_VALUE, LEAST};
        for (int v : values) {
            Due.is("29: put", x.put(0, 0, 2, v), 1);
            Due.is("29: put", x.put(1, 1, 2, v), 1);
            Due.is("29: put", x.put(2, 2, 2, v), 1);
            Due.is("29: byte of " + v, x.get(0, 0, 2), (byte) v);
            Due.is("29: short of " + v, x.get(1, 1, 2), (short) v);
            Due.is("29: int of " + v, x.get(2, 2, 2), v);
        }
        Due.is("29: its neighbour", x.get(0, 0, 1), 0);
    }

    private static void get() {
        ColdMotor x = new ColdMotor();
        int[][] bad = {{-1, 0}, {4, 0}, {0, -1}, {0, 3}};
        for (int[] b : bad) {
            Due.is("30: BAD", x.get(b[0], b[1], 0), LEAST);
        }
        Due.is("30: BAD is no finding", x.count(8), 0);
        Due.is("30: NULL", x.get(0, 0, 0), LEAST);
        Due.is("30: NULL", x.count(8), 1);
        x.sheet(0, 1, 2);
        Due.is("30: CAST ahead of INDEX", x.get(0, 0, 2), LEAST);
        Due.is("30: CAST ahead of INDEX", x.count(8), 3);
        Due.is("30: INDEX", x.get(0, 1, 2), LEAST);
        Due.is("30: INDEX", x.count(8), 2);
        Due.is("30: CAST", x.get(0, 2, 0), LEAST);
        Due.is("30: CAST", x.count(8), 3);
        Due.is("30: INDEX", x.get(0, 1, -1), LEAST);
        Due.is("30: INDEX", x.count(8), 2);
        x.put(0, 1, 1, -7);
        Due.is("30: get", x.get(0, 1, 1), -7);
        Due.is("30: a good one leaves the finding", x.count(8), 2);
        Due.is("30: BAD leaves the finding", x.get(0, 9, 0), LEAST);
        Due.is("30: BAD leaves the finding", x.count(8), 2);
    }

    private static void itemsAre(ColdMotor x, int s, int form, int... want) {
        for (int i = 0; i < want.length; i++) {
            Due.is("31: item " + i, x.get(s, form, i), want[i]);
        }
    }

    private static void copy() {
        ColdMotor x = new ColdMotor();
        for (int form = 0; form < 3; form++) {
            x.sheet(0, form, 6);
            x.sheet(1, form, 4);
            for (int i = 0; i < 6; i++) {
                x.put(0, form, i, i + 1);
            }
            Due.is("31: copy", x.copy(0, 2, 1, 1, 3), 1);
            itemsAre(x, 1, form, 0, 3, 4, 5);
            Due.is("31: to itself, on", x.copy(0, 0, 0, 2, 4), 1);
            itemsAre(x, 0, form, 1, 2, 1, 2, 3, 4);
            Due.is("31: to itself, back", x.copy(0, 2, 0, 1, 4), 1);
            itemsAre(x, 0, form, 1, 1, 2, 3, 4, 4);
            Due.is("31: none, at the ends", x.copy(0, 6, 1, 4, 0), 1);
            Due.is("31: all", x.copy(1, 0, 0, 2, 4), 1);
            itemsAre(x, 0, form, 1, 1, 0, 3, 4, 5);
        }
        Due.is("31: no finding", x.count(8), 0);
    }

    private static void copyRefusals() {
        ColdMotor x = new ColdMotor();
        int[][] bad = {{-1, 0}, {4, 0}, {0, -1}, {0, 4}};
        for (int[] b : bad) {
            Due.is("31: BAD", x.copy(b[0], -1, b[1], -1, -1), -2);
        }
        Due.is("31: BAD is no finding", x.count(8), 0);
        x.sheet(0, 0, 6);
        x.sheet(1, 1, 6);
        x.sheet(2, 0, 4);
        Due.is("31: NULL: t", x.copy(0, -1, 3, 0, 0), -11);
        Due.is("31: NULL: s", x.copy(3, 0, 0, -1, 0), -11);
        Due.is("31: NULL", x.count(8), 1);
        Due.is("31: STORE ahead of INDEX", x.copy(0, -1, 1, 0, 0), -14);
        Due.is("31: STORE of none, too", x.copy(1, 0, 0, 0, 0), -14);
        Due.is("31: STORE", x.count(8), 4);
        int most = Integer.MAX_VALUE;
        int[][] wrong = {{-1, 0, 0}, {0, -1, 0}, {0, 0, -1}, {7, 0, 0}, {0, 5, 0}, {6, 0, 1}, {0, 4, 1}, {3, 0, 4},
            {0, 2, 3}, {0, 0, 5}, {most, 0, 1}, {0, most, 1}, {1, 1, most}, {most, most, most}, {LEAST, 0, 0},
            {0, LEAST, 0}, {0, 0, LEAST}, {LEAST, 0, most}};
        for (int[] w : wrong) {
            x.count(0);
            Due.is("31: INDEX", x.copy(0, w[0], 2, w[1], w[2]), -12);
        }
        Due.is("31: INDEX", x.count(8), 2);
    }

    private static void write() {
        ColdMotor x = Due.motor("c0");
        Due.is("32: BAD", x.write(-1, 0), -2);
        Due.is("32: BAD", x.write(32, 0), -2);
        Due.is("32: BAD", x.write(0, -1), -2);
        Due.is("32: BAD", x.write(0, 4), -2);
        Due.is("32: BAD is no finding", x.count(8), 0);
        Due.is("32: NULL", x.write(0, 0), -11);
        Due.is("32: NULL", x.count(8), 1);
        for (int form = 0; form < 3; form++) {
            x.sheet(form, form, 5);
            x.put(form, form, 4, 99);
            Due.is("32: nothing seen", x.write(0, form), 0);
        }
        int[] acts = {5, 0, 9, 0};
        for (int act : acts) {
            x.see(act, 3);
        }
        int[][] want = {{6, 2, 4, 4, 99}, {6, 1, 0, 2, 99}, {6, 0, 0, 0, 99}};
        int[] sets = {0, 8, 4};
        for (int form = 0; form < 3; form++) {
            Due.is("32: write", x.write(sets[form], form), 4);
            for (int i = 0; i < 5; i++) {
                Due.is("32: item " + i, x.get(form, form, i), want[form][i]);
            }
        }
        x.sheet(3, 1, 2);
        Due.is("32: as many as there are items", x.write(8, 3), 2);
        Due.is("32: item 1", x.get(3, 1, 1), 1);
        x.sheet(3, 1, 0);
        Due.is("32: of none", x.write(8, 3), 0);
        Due.is("32: what was seen stays", x.count(2), 4);
    }

    private static void count() {
        ColdMotor x = new ColdMotor();
        Due.is("33: count(-1)", x.count(-1), -2);
        Due.is("33: count(9)", x.count(9), -2);
        Due.retype(x, 0, "c0;q");
        Due.retype(x, 1, "3*9,4,5*2");
        x.see(0, 0);
        x.see(0, 1);
        x.see(0, 2);
        x.ahead(0, 16);
        x.ahead(4, 1);
        x.morning(1, 1, 20);
        x.morning(1, 1, 7);
        x.sheet(0, 0, -1);
        int[] want = {4, 9, 3, x.left(), 2, 26, 12, 27, 5};
        for (int what = 0; what < want.length; what++) {
            Due.is("33: count(" + what + ")", x.count(what), want[what]);
        }
        x.type(1, ',');
        Due.is("33: with a fault", x.count(6), 0);
        Due.is("33: with a fault", x.count(1), 10);
        Due.retype(x, 1, "3*9,3*9,3*9,3*9,3*9,3*9,3*9,3*9,3*9,3*9");
        Due.is("33: the longest", x.count(6), 90);
        x.back();
        x.back();
        x.back();
        Due.is("33: left", x.count(3), 16);
        x.lose(3);
        Due.is("33: the latest finding", x.count(8), 1);
    }
}
