/** Edges of MORNINGS and LAWS: a test for each sentence, promises 23 to 26. */
public final class EdgeMorningsTest {
    public static void main(String[] args) {
        ranges();
        sixteen();
        lawRanges();
        lawIsCut();
        missesAtNothingAndAtFull();
        missesOnBothSides();
        missesRefusals();
        fitsOfLikeOnes();
        fitsTheLastLaw();
        fitsWithoutMornings();
        fitsOfAllSixteen();
        fitsAnewBehindEachMorning();
        Due.end("EdgeMorningsTest");
    }

    private static void fitsIs(ColdMotor x, int a, int b, int c, int misses) {
        Due.is("fits(0)", x.fits(0), a);
        Due.is("fits(1)", x.fits(1), b);
        Due.is("fits(2)", x.fits(2), c);
        Due.is("fits(3)", x.fits(3), misses);
    }

    private static void ranges() {
        Due.says("AGE (0 to 40), COLD (0 to 9), TURNS that it took (0 to 30)");
        int[][] well = {{0, 0, 0}, {40, 0, 0}, {0, 9, 0}, {0, 0, 30}, {40, 9, 30}};
        int[][] bad = {{-1, 0, 0}, {41, 0, 0}, {0, -1, 0}, {0, 10, 0}, {0, 0, -1}, {0, 0, 31}};
        for (int[] w : well) {
            ColdMotor x = new ColdMotor();
            Due.is("morning(" + w[0] + ", " + w[1] + ", " + w[2] + ")", x.morning(w[0], w[1], w[2]), 1);
            Due.is("count(7)", x.count(7), w[2]);
        }
        for (int[] b : bad) {
            ColdMotor x = new ColdMotor();
            Due.is("morning(" + b[0] + ", " + b[1] + ", " + b[2] + ")", x.morning(b[0], b[1], b[2]), -2);
            Due.is("count(4)", x.count(4), 0);
            Due.is("fits(0)", x.fits(0), -3);
        }
    }

    private static void sixteen() {
        Due.says("MORNINGS, 16 at most");
        ColdMotor x = new ColdMotor();
        for (int i = 1; i <= 15; i++) {
            Due.is("morning", x.morning(0, 0, 30), i);
        }
        Due.is("misses of fifteen", x.misses(0, 0, 0), 450);
        fitsIs(x, 9, 0, 0, 15 * 21);
        Due.is("the 16th counts", x.morning(0, 0, 29), 16);
        Due.is("misses of sixteen", x.misses(0, 0, 0), 479);
        fitsIs(x, 9, 0, 0, 15 * 21 + 20);
        Due.is("the 17th", x.morning(0, 0, 1), -4);
        Due.is("count(4)", x.count(4), 16);
        Due.is("count(7)", x.count(7), 479);
        Due.is("misses behind FULL", x.misses(0, 0, 0), 479);
        fitsIs(x, 9, 0, 0, 15 * 21 + 20);
        Due.is("BAD ahead of FULL", x.morning(41, 0, 0), -2);
        Due.is("BAD ahead of FULL", x.morning(0, 10, 0), -2);
        Due.is("BAD ahead of FULL", x.morning(0, 0, 31), -2);
    }

    private static void lawRanges() {
        Due.says("A LAW (a 0 to 9, b 0 to 9, c 0 to 3) says ..; BAD: also AGE, COLD that may not be");
        int[] most = {9, 9, 3, 40, 9};
        ColdMotor x = new ColdMotor();
        Due.is("says(0, 0, 0, 0, 0)", x.says(0, 0, 0, 0, 0), 0);
        Due.is("says(9, 9, 3, 40, 9)", x.says(9, 9, 3, 40, 9), 72);
        for (int i = 0; i < 5; i++) {
            int[] v = new int[5];
            v[i] = -1;
            Due.is("one is -1: " + i, x.says(v[0], v[1], v[2], v[3], v[4]), -2);
            v[i] = most[i];
            Due.is("one is most: " + i, x.says(v[0], v[1], v[2], v[3], v[4]), i == 0 ? 9 : 0);
            v[i] = most[i] + 1;
            Due.is("one is too much: " + i, x.says(v[0], v[1], v[2], v[3], v[4]), -2);
        }
    }

    private static void lawIsCut() {
        Due.says("says a, b times AGE by 10 (cut), c times COLD together");
        ColdMotor x = new ColdMotor();
        Due.is("9 by 10", x.says(0, 1, 0, 9, 0), 0);
        Due.is("10 by 10", x.says(0, 1, 0, 10, 0), 1);
        Due.is("19 by 10", x.says(0, 1, 0, 19, 0), 1);
        Due.is("9 by 1", x.says(0, 9, 0, 1, 0), 0);
        Due.is("9 by 39 by 10", x.says(0, 9, 0, 39, 0), 35);
        Due.is("9 by 40 by 10", x.says(0, 9, 0, 40, 0), 36);
        Due.is("5 by 1, and 5", x.says(5, 5, 0, 1, 0), 5);
        Due.is("nothing of COLD is cut", x.says(0, 0, 3, 0, 1), 3);
        Due.is("what is cut does not join", x.says(0, 7, 3, 7, 3), 4 + 9);
    }

    private static void missesAtNothingAndAtFull() {
        Due.says("MISSES: by how much all MORNINGS are off, together.");
        ColdMotor x = new ColdMotor();
        Due.is("without MORNINGS", x.misses(9, 9, 3), 0);
        for (int i = 0; i < 16; i++) {
            x.morning(40, 9, 0);
        }
        Due.is("the most", x.misses(9, 9, 3), 16 * 72);
        Due.is("none", x.misses(0, 0, 0), 0);
    }

    private static void missesOnBothSides() {
        Due.says("by how much all MORNINGS are off, together");
        ColdMotor x = new ColdMotor();
        x.morning(0, 0, 5);
        Due.is("above", x.misses(6, 0, 0), 1);
        Due.is("as it was", x.misses(5, 0, 0), 0);
        Due.is("below", x.misses(4, 0, 0), 1);
        x.morning(0, 0, 3);
        Due.is("they do not make up", x.misses(4, 0, 0), 2);
    }

    private static void missesRefusals() {
        Due.says("MISSES. BAD.");
        ColdMotor x = new ColdMotor();
        for (int round = 0; round < 2; round++) {
            Due.is("misses(-1, 0, 0)", x.misses(-1, 0, 0), -2);
            Due.is("misses(10, 0, 0)", x.misses(10, 0, 0), -2);
            Due.is("misses(0, -1, 0)", x.misses(0, -1, 0), -2);
            Due.is("misses(0, 10, 0)", x.misses(0, 10, 0), -2);
            Due.is("misses(0, 0, -1)", x.misses(0, 0, -1), -2);
            Due.is("misses(0, 0, 4)", x.misses(0, 0, 4), -2);
            x.morning(1, 1, 1);
        }
    }

    private static void fitsOfLikeOnes() {
        Due.says("FITS: the LAW with the fewest, of like ones the least a, then b, then c");
        ColdMotor a = new ColdMotor();
        // 3 is 3 by a, by b (30 by 10) and by c: the least a, then the least b
        a.morning(10, 1, 3);
        fitsIs(a, 0, 0, 3, 0);
        ColdMotor b = new ColdMotor();
        // of b and of c the least b; c may be 0 to 2, but with b 1 only 0 is left
        b.morning(10, 0, 1);
        fitsIs(b, 0, 1, 0, 0);
        ColdMotor c = new ColdMotor();
        // without AGE and COLD any b, c serve
        c.morning(0, 0, 4);
        fitsIs(c, 4, 0, 0, 0);
        ColdMotor off = new ColdMotor();
        // 4 or 5: by one off either way, and by one between them
        off.morning(0, 0, 4);
        off.morning(0, 0, 5);
        fitsIs(off, 4, 0, 0, 1);
        ColdMotor cut = new ColdMotor();
        // b of 3 and 4 say 1 of 3 by AGE: the least b that does
        cut.morning(3, 0, 1);
        fitsIs(cut, 0, 4, 0, 0);
    }

    private static void fitsTheLastLaw() {
        Due.says("A LAW (a 0 to 9, b 0 to 9, c 0 to 3)");
        ColdMotor x = new ColdMotor();
        x.morning(0, 0, 9);
        x.morning(10, 0, 18);
        x.morning(0, 1, 12);
        fitsIs(x, 9, 9, 3, 0);
        ColdMotor y = new ColdMotor();
        y.morning(0, 0, 10);
        fitsIs(y, 9, 0, 0, 1);
        ColdMotor z = new ColdMotor();
        z.morning(0, 0, 0);
        fitsIs(z, 0, 0, 0, 0);
    }

    private static void fitsWithoutMornings() {
        Due.says("NOT without MORNINGS");
        ColdMotor x = new ColdMotor();
        for (int what = 0; what < 4; what++) {
            Due.is("fits(" + what + ")", x.fits(what), -3);
        }
        Due.is("BAD ahead of NOT", x.fits(-1), -2);
        Due.is("BAD ahead of NOT", x.fits(4), -2);
        x.morning(41, 0, 0);
        Due.is("a MORNING that was refused is none", x.fits(0), -3);
        x.morning(0, 0, 0);
        fitsIs(x, 0, 0, 0, 0);
        Due.is("fits(-1)", x.fits(-1), -2);
        Due.is("fits(4)", x.fits(4), -2);
    }

    private static void fitsOfAllSixteen() {
        Due.says("FITS: the LAW with the fewest");
        ColdMotor x = new ColdMotor();
        for (int i = 0; i < 16; i++) {
            x.morning(2 * i, i % 10, 2 + 3 * 2 * i / 10 + i % 10);
        }
        fitsIs(x, 2, 3, 1, 0);
    }

    private static void fitsAnewBehindEachMorning() {
        Due.says("FITS: the LAW with the fewest, of like ones the least a, then b, then c");
        ColdMotor a = new ColdMotor();
        a.morning(0, 0, 5);
        fitsIs(a, 5, 0, 0, 0);
        // now every law of 0 to 5 is off by 5, and none that fitted before is left in it
        a.morning(0, 0, 0);
        fitsIs(a, 0, 0, 0, 5);
        ColdMotor bc = new ColdMotor();
        bc.morning(40, 9, 30);
        fitsIs(bc, 0, 3, 2, 0);
        bc.morning(40, 9, 0);
        fitsIs(bc, 0, 0, 0, 30);
        bc.morning(40, 9, 30);
        fitsIs(bc, 0, 3, 2, 30);
    }
}
