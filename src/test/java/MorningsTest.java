/** Promises 23 to 26: morning, says, misses, fits. */
public final class MorningsTest {
    public static void main(String[] args) {
        morning();
        says();
        misses();
        fits();
        Due.end("MorningsTest");
    }

    private static void morning() {
        ColdMotor x = new ColdMotor();
        int[][] bad = {{-1, 0, 0}, {41, 0, 0}, {0, -1, 0}, {0, 10, 0}, {0, 0, -1}, {0, 0, 31}};
        for (int[] b : bad) {
            Due.is("23: BAD", x.morning(b[0], b[1], b[2]), -2);
        }
        Due.is("23: none is there", x.count(4), 0);
        for (int i = 0; i < 16; i++) {
            Due.is("23: morning", x.morning(i % 2 * 40, i % 2 * 9, i % 2 * 30), i + 1);
        }
        Due.is("23: the 17th", x.morning(0, 0, 0), -4);
        for (int[] b : bad) {
            Due.is("23: BAD ahead of FULL", x.morning(b[0], b[1], b[2]), -2);
        }
        Due.is("23: count(4)", x.count(4), 16);
        Due.is("23: count(7)", x.count(7), 240);
    }

    private static void says() {
        ColdMotor x = new ColdMotor();
        Due.is("24: says", x.says(0, 0, 0, 40, 9), 0);
        Due.is("24: says", x.says(9, 9, 3, 40, 9), 9 + 36 + 27);
        Due.is("24: cut", x.says(1, 1, 0, 9, 0), 1);
        Due.is("24: not cut", x.says(1, 1, 0, 10, 0), 2);
        Due.is("24: cut behind the product", x.says(0, 9, 0, 39, 0), 35);
        Due.is("24: cold is not cut", x.says(0, 0, 3, 0, 7), 21);
        int[][] bad = {{-1, 0, 0, 0, 0}, {10, 0, 0, 0, 0}, {0, -1, 0, 0, 0}, {0, 10, 0, 0, 0}, {0, 0, -1, 0, 0},
            {0, 0, 4, 0, 0}, {0, 0, 0, -1, 0}, {0, 0, 0, 41, 0}, {0, 0, 0, 0, -1}, {0, 0, 0, 0, 10}};
        for (int[] b : bad) {
            Due.is("24: BAD", x.says(b[0], b[1], b[2], b[3], b[4]), -2);
        }
    }

    private static void misses() {
        ColdMotor x = new ColdMotor();
        Due.is("25: without mornings", x.misses(9, 9, 3), 0);
        x.morning(10, 1, 5);
        x.morning(20, 2, 1);
        Due.is("25: above and below do not make up", x.misses(1, 1, 0), 3 + 2);
        Due.is("25: misses", x.misses(0, 0, 0), 6);
        Due.is("25: misses", x.misses(0, 0, 3), 2 + 5);
        int[][] bad = {{-1, 0, 0}, {10, 0, 0}, {0, -1, 0}, {0, 10, 0}, {0, 0, -1}, {0, 0, 4}};
        for (int[] b : bad) {
            Due.is("25: BAD", x.misses(b[0], b[1], b[2]), -2);
        }
    }

    private static void fitsIs(ColdMotor x, int... want) {
        for (int what = 0; what < 4; what++) {
            Due.is("26: fits(" + what + ")", x.fits(what), want[what]);
        }
    }

    private static void fits() {
        ColdMotor x = new ColdMotor();
        Due.is("26: BAD ahead of NOT", x.fits(-1), -2);
        Due.is("26: BAD ahead of NOT", x.fits(4), -2);
        for (int what = 0; what < 4; what++) {
            Due.is("26: NOT", x.fits(what), -3);
        }
        // of like laws the least a, then the least b, then the least c
        x.morning(10, 1, 3);
        fitsIs(x, 0, 0, 3, 0);
        x.morning(10, 0, 1);
        fitsIs(x, 0, 1, 2, 0);
        x.morning(0, 0, 1);
        fitsIs(x, 1, 0, 2, 0);
        x.morning(0, 0, 0);
        // by 1 off, whether a or b is 1
        fitsIs(x, 0, 1, 2, 1);
        Due.is("26: BAD", x.fits(-1), -2);
        Due.is("26: BAD", x.fits(4), -2);
        ColdMotor y = new ColdMotor();
        y.morning(0, 0, 30);
        fitsIs(y, 9, 0, 0, 21);
        y.morning(40, 9, 30);
        y.morning(40, 0, 30);
        fitsIs(y, 9, 5, 0, 21 + 1 + 1);
        ColdMotor w = new ColdMotor();
        w.morning(0, 0, 0);
        w.morning(10, 0, 9);
        w.morning(30, 1, 30);
        fitsIs(w, 0, 9, 3, 0);
        ColdMotor z = new ColdMotor();
        z.morning(40, 9, 0);
        fitsIs(z, 0, 0, 0, 0);
    }
}
