/** Edges of ODDS ahead and of what is SEEN: a test for each sentence, promises 6 to 12. */
public final class EdgeSeenTest {
    private static final int SPARKLESS = 2, LATE = 8;
    private static final int ALL = 1 << 20;

    public static void main(String[] args) {
        sixteenths();
        neverOrAlways();
        byItself();
        actsAndSigns();
        twentyFour();
        oneAfterTheOther();
        agrees();
        signFourMayBeSeen();
        noneIsLeft();
        leftWithoutOdds();
        leftAtNothingAndAtFull();
        lowestTerms();
        troubleAtFirst();
        readsWholePairs();
        readsUpToARefusal();
        readsUntilItIsFull();
        readsEachForm();
        readRefusals();
        backAtNothingAndAtFull();
        Due.end("EdgeSeenTest");
    }

    private static void oddsIs(ColdMotor x, int set, long above, long below) {
        Due.fraction("odds(" + set + ")", x.odds(set, 0), x.odds(set, 1), above, below);
    }

    private static void troubleIs(ColdMotor x, int trouble, long above, long below) {
        Due.fraction("trouble(" + trouble + ")", x.trouble(trouble, 0), x.trouble(trouble, 1), above, below);
    }

    private static ColdMotor aheadAll(String motor, int v) {
        ColdMotor x = Due.motor(motor);
        for (int t = 0; t < 5; t++) {
            x.ahead(t, v);
        }
        return x;
    }

    private static void sixteenths() {
        Due.says("each TROUBLE is there by so many sixteenths (0 to 16; 3 at first)");
        for (int t = 0; t < 5; t++) {
            ColdMotor x = new ColdMotor();
            Due.is("ahead(" + t + ", -1)", x.ahead(t, -1), -2);
            Due.is("ahead(" + t + ", 17)", x.ahead(t, 17), -2);
            Due.is("ahead(" + t + ", 0) tells what was at first", x.ahead(t, 0), 3);
            for (int v = 1; v <= 16; v++) {
                Due.is("ahead(" + t + ", " + v + ")", x.ahead(t, v), v - 1);
                Due.is("count(5)", x.count(5), 12 + v);
            }
            Due.is("ahead(" + t + ", 17) behind 16", x.ahead(t, 17), -2);
            Due.is("ahead(" + t + ", 16)", x.ahead(t, 16), 16);
        }
        ColdMotor x = new ColdMotor();
        Due.is("ahead(-1, 3)", x.ahead(-1, 3), -2);
        Due.is("ahead(5, 3)", x.ahead(5, 3), -2);
        Due.is("count(5) at most", aheadAll("", 16).count(5), 80);
        Due.is("count(5) at least", aheadAll("", 0).count(5), 0);
    }

    private static void neverOrAlways() {
        Due.says("by so many sixteenths (0 to 16");
        for (int t = 0; t < 5; t++) {
            ColdMotor x = new ColdMotor();
            x.ahead(t, 0);
            troubleIs(x, t, 0, 1);
            Due.is("never: left()", x.left(), 16);
            oddsIs(x, 1 << t, 0, 1);
            x.ahead(t, 16);
            troubleIs(x, t, 1, 1);
            Due.is("always: left()", x.left(), 16);
            oddsIs(x, 0, 0, 1);
            oddsIs(x, 31 - (1 << t), 0, 1);
        }
        oddsIs(aheadAll("", 16), 31, 1, 1);
        oddsIs(aheadAll("", 16), 30, 0, 1);
        oddsIs(aheadAll("", 0), 0, 1, 1);
        oddsIs(aheadAll("", 0), 1, 0, 1);
    }

    private static void byItself() {
        Due.says("by itself");
        ColdMotor x = new ColdMotor();
        int[] v = {1, 3, 5, 7, 9};
        for (int t = 0; t < 5; t++) {
            x.ahead(t, v[t]);
        }
        oddsIs(x, 0, 15L * 13 * 11 * 9 * 7, ALL);
        oddsIs(x, 31, 3L * 5 * 7 * 9, ALL);
        oddsIs(x, 1, 13L * 11 * 9 * 7, ALL);
        oddsIs(x, 16, 15L * 13 * 11 * 9 * 9, ALL);
        for (int t = 0; t < 5; t++) {
            troubleIs(x, t, v[t], 16);
        }
    }

    private static void actsAndSigns() {
        Due.says("An ACT was done, its SIGN (0 to 6) SEEN: how many are.");
        for (int act = -1; act <= 10; act++) {
            for (int sign = -1; sign <= 7; sign++) {
                ColdMotor x = new ColdMotor();
                boolean may = act >= 0 && act <= 9 && sign >= 0 && sign <= 6;
                Due.is("see(" + act + ", " + sign + ")", x.see(act, sign), may ? 1 : -2);
                Due.is("count(2)", x.count(2), may ? 1 : 0);
            }
        }
    }

    private static void twentyFour() {
        Due.says("SEEN: a row of ACTS, each with its SIGN, 24 at most");
        ColdMotor x = Due.motor("c0;d0;m99;b30");
        for (int i = 1; i <= 23; i++) {
            Due.is("see(0, 0)", x.see(0, 0), i);
        }
        Due.is("all are left: nothing is drawn", x.left(), 32);
        Due.is("the 24th counts", x.see(0, 1), 24);
        Due.is("left() behind the 24th", x.left(), 0);
        Due.is("the 25th", x.see(0, 0), -4);
        Due.is("count(2)", x.count(2), 24);
        Due.is("left() behind the 25th", x.left(), 0);
        Due.is("back()", x.back(), 23);
        Due.is("another 24th", x.see(0, 0), 24);
        Due.is("left()", x.left(), 32);
        Due.is("the 25th again", x.see(0, 1), -4);
        Due.is("left()", x.left(), 32);
    }

    private static void oneAfterTheOther() {
        Due.says("one after the other from the first STATE on");
        ColdMotor x = Due.motor("c0");
        x.see(9, 0);
        x.see(0, 2);
        // the time is set ahead of the turn: it may have been LATE
        Due.is("SET, then the turn", x.left(), 2);
        ColdMotor y = Due.motor("c0");
        y.see(0, 2);
        y.see(9, 4);
        Due.is("the turn, then SET", y.left(), 1);
    }

    private static void agrees() {
        Due.says("LEFT are SETS that agree: with these TROUBLES each ACT comes to the SIGN that was seen");
        int[][] rows = {{0, 1}, {9, 0}, {0, 2}, {4, 4}};
        for (int wrong = -1; wrong < rows.length; wrong++) {
            ColdMotor x = Due.motor("c0");
            for (int i = 0; i < rows.length; i++) {
                x.see(rows[i][0], i == wrong ? 6 : rows[i][1]);
            }
            Due.is("the wrong one is " + wrong, x.left(), wrong < 0 ? 1 : 0);
        }
    }

    private static void signFourMayBeSeen() {
        Due.says("nothing is done: SIGN 4");
        ColdMotor x = Due.motor("m1;c0;b1");
        x.see(4, 4);
        Due.is("no LIGHT to WAIT", x.left(), 32);
        x.see(0, 1);
        Due.is("a cough", x.left(), 1);
        x.see(0, 4);
        Due.is("no BATTERY", x.left(), 1);
        oddsIs(x, LATE, 1, 1);
    }

    private static void noneIsLeft() {
        Due.says("NOT, where no SET that is LEFT has any.");
        ColdMotor x = new ColdMotor();
        x.see(4, 1);
        notAnyOdds(x);
        x.back();
        Due.is("left() behind back()", x.left(), 32);
        oddsIs(x, 31, 243, ALL);
    }

    private static void leftWithoutOdds() {
        Due.says("NOT, where no SET that is LEFT has any.");
        ColdMotor x = Due.motor("c0");
        x.see(0, 1);
        x.ahead(3, 0);
        // LATE alone agrees, and it was never LATE
        notAnyOdds(x);
        x.ahead(3, 1);
        Due.is("by the least odds", x.left(), 1);
        oddsIs(x, LATE, 1, 1);
        x.ahead(2, 16);
        notAnyOdds(x);
    }

    private static void notAnyOdds(ColdMotor x) {
        Due.is("left()", x.left(), 0);
        Due.is("count(3)", x.count(3), 0);
        for (int what = 0; what < 2; what++) {
            Due.is("odds(0, " + what + ")", x.odds(0, what), Due.NOT);
            Due.is("odds(31, " + what + ")", x.odds(31, what), Due.NOT);
            Due.is("trouble(0, " + what + ")", x.trouble(0, what), Due.NOT);
            Due.is("trouble(4, " + what + ")", x.trouble(4, what), Due.NOT);
        }
        Due.is("BAD ahead of NOT", x.odds(-1, 0), Due.BAD);
        Due.is("BAD ahead of NOT", x.odds(32, 0), Due.BAD);
        Due.is("BAD ahead of NOT", x.odds(0, -1), Due.BAD);
        Due.is("BAD ahead of NOT", x.odds(0, 2), Due.BAD);
        Due.is("BAD ahead of NOT", x.trouble(-1, 0), Due.BAD);
        Due.is("BAD ahead of NOT", x.trouble(5, 0), Due.BAD);
        Due.is("BAD ahead of NOT", x.trouble(0, -1), Due.BAD);
        Due.is("BAD ahead of NOT", x.trouble(0, 2), Due.BAD);
    }

    private static void leftAtNothingAndAtFull() {
        Due.says("How many SETS are LEFT (with ODDS above 0).");
        for (int many = 0; many <= 5; many++) {
            ColdMotor x = new ColdMotor();
            for (int t = 0; t < many; t++) {
                x.ahead(t, t % 2 * 16);
            }
            Due.is("left()", x.left(), 32 >> many);
            Due.is("count(3)", x.count(3), 32 >> many);
        }
        Due.is("the least odds are above 0", aheadAll("", 1).left(), 32);
        Due.is("the least odds are above 0", aheadAll("", 15).left(), 32);
    }

    private static void lowestTerms() {
        Due.says("FRACTIONS are told in lowest terms, above and below (0 by 1).");
        oddsIs(aheadAll("", 1), 31, 1, ALL);
        oddsIs(aheadAll("", 15), 0, 1, ALL);
        oddsIs(aheadAll("", 15), 31, 759375, ALL);
        oddsIs(aheadAll("", 8), 0, 1, 32);
        oddsIs(aheadAll("", 8), 31, 1, 32);
        oddsIs(aheadAll("", 4), 31, 1, 1024);
        oddsIs(aheadAll("", 12), 31, 243, 1024);
        oddsIs(aheadAll("", 0), 31, 0, 1);
        troubleIs(aheadAll("", 12), 4, 3, 4);
        ColdMotor x = aheadAll("c0", 8);
        x.see(0, 0);
        // neither a run (no TROUBLE) nor a cough (LATE): thirty are alike
        oddsIs(x, 31, 1, 30);
        oddsIs(x, 0, 0, 1);
        troubleIs(x, 3, 1, 2);
        troubleIs(x, 0, 8, 15);
    }

    private static void troubleAtFirst() {
        Due.says("ODDS that a TROUBLE was there at first, by what was SEEN");
        ColdMotor x = Due.motor("c0");
        x.see(0, 1);
        troubleIs(x, 3, 1, 1);
        x.see(9, 0);
        x.see(0, 2);
        troubleIs(x, 3, 1, 1);
        troubleIs(x, 1, 0, 1);
        Due.is("it is not LATE then", x.state(LATE, 6), 0);
    }

    private static ColdMotor withItems(int form, int... items) {
        ColdMotor x = new ColdMotor();
        Due.is("sheet", x.sheet(3, form, items.length), items.length);
        for (int i = 0; i < items.length; i++) {
            Due.is("put", x.put(3, form, i, items[i]), 1);
        }
        return x;
    }

    private static void readIs(int want, int form, int... items) {
        ColdMotor x = withItems(form, items);
        Due.is("read(3)", x.read(3), want);
        Due.is("count(2)", x.count(2), want);
        Due.is("no finding", x.count(8), 0);
    }

    private static void readsWholePairs() {
        Due.says("its items, two for each, as many as are whole");
        readIs(0, 0);
        readIs(0, 0, 5);
        readIs(1, 0, 5, 6);
        readIs(1, 0, 5, 6, 5);
        readIs(2, 0, 5, 6, 5, 6);
        readIs(24, 0, new int[48]);
        readIs(23, 0, new int[47]);
    }

    private static void readsUpToARefusal() {
        Due.says("one by one as see() takes them, up to the first that it refuses: how many it took");
        readIs(0, 2, 10, 0, 0, 0);
        readIs(0, 2, -1, 0, 0, 0);
        readIs(0, 2, 0, 7, 0, 0);
        readIs(0, 2, 0, -1, 0, 0);
        readIs(1, 2, 9, 6, 10, 0, 0, 0);
        readIs(2, 2, 9, 6, 0, 0, 0, 7);
        readIs(1, 2, 0, 0, Integer.MIN_VALUE, 0);
        readIs(1, 2, 0, 0, 0, Integer.MAX_VALUE);
        // 256 of an int is no 0, of a byte it is
        readIs(0, 2, 256, 0);
        readIs(1, 0, 256, 0);
        readIs(0, 1, 256, 0);
        readIs(1, 1, 65536, 0);
    }

    private static void readsUntilItIsFull() {
        Due.says("ACTS and SIGNS more, behind those that there are");
        ColdMotor x = withItems(0, 5, 6, 6, 0, 7, 0);
        for (int i = 0; i < 22; i++) {
            x.see(4, 0);
        }
        Due.is("two fit", x.read(3), 2);
        Due.is("count(2)", x.count(2), 24);
        Due.is("none fits", x.read(3), 0);
        Due.is("FULL is no answer of read()", x.count(2), 24);
        x.back();
        Due.is("one fits", x.read(3), 1);
        Due.is("no finding", x.count(8), 0);
        ColdMotor y = withItems(0, 9, 0, 0, 2);
        Due.retype(y, 0, "c0");
        y.see(0, 1);
        Due.is("read(3)", y.read(3), 2);
        Due.is("behind the cough that there was", y.left(), 1);
        oddsIs(y, LATE, 1, 1);
    }

    private static void readsEachForm() {
        Due.says("from a SHEET");
        for (int form = 0; form < 3; form++) {
            ColdMotor x = withItems(form, 8, 0, 0, 2);
            Due.retype(x, 0, "c0");
            Due.is("read(3)", x.read(3), 2);
            Due.is("filed, it ran", x.left(), 2);
            x.ahead(1, 16);
            oddsIs(x, SPARKLESS, 1, 1);
            Due.is("the SHEET stays", x.lose(3), 4);
        }
    }

    private static void readRefusals() {
        Due.says("how many it took. BAD; NULL.");
        ColdMotor x = new ColdMotor();
        Due.is("read(-1)", x.read(-1), -2);
        Due.is("read(4)", x.read(4), -2);
        Due.is("BAD is no finding", x.count(8), 0);
        Due.is("read(0)", x.read(0), -11);
        Due.is("NULL is one", x.count(8), 1);
        for (int i = 0; i < 24; i++) {
            x.see(0, 0);
        }
        Due.is("NULL when it is full", x.read(3), -11);
        Due.is("BAD when it is full", x.read(4), -2);
    }

    private static void backAtNothingAndAtFull() {
        Due.says("The last one that was SEEN is taken back: how many are left. NOT: none.");
        ColdMotor x = Due.motor("c0");
        Due.is("back() at nothing", x.back(), -3);
        Due.is("count(2)", x.count(2), 0);
        Due.is("see() behind it", x.see(0, 2), 1);
        Due.is("left()", x.left(), 1);
        for (int i = 1; i < 24; i++) {
            x.see(4, 4);
        }
        for (int i = 23; i >= 0; i--) {
            Due.is("left()", x.left(), 1);
            Due.is("back()", x.back(), i);
        }
        Due.is("left()", x.left(), 32);
        Due.is("back() at nothing", x.back(), -3);
        // the last alone is taken back
        x.see(0, 1);
        x.see(0, 6);
        Due.is("two, of which one cannot be", x.left(), 0);
        Due.is("back()", x.back(), 1);
        Due.is("the first stands", x.left(), 1);
    }
}
