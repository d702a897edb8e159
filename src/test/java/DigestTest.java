import java.util.ArrayList;
import java.util.List;

/** Promise 34: digest, put together from the other calls' answers. */
public final class DigestTest {
    public static void main(String[] args) {
        ColdMotor x = new ColdMotor();
        check("new", x);
        Due.retype(x, 0, "c0;d5;b20");
        check("motor", x);
        Due.retype(x, 1, "1*3,9,0");
        check("habit", x);
        x.see(0, 2);
        check("seen", x);
        x.see(0, 0);
        check("none left", x);
        x.back();
        x.ahead(2, 9);
        check("ahead", x);
        x.morning(20, 5, 9);
        check("morning", x);
        x.type(1, 200);
        check("habit's fault", x);
        x.type(0, 200);
        check("motor's fault", x);
        Due.retype(x, 0, "c4;d9");
        Due.isTrue("34: PRESSLESS it drowns, with no trouble not", x.drowned(0, 3) != x.drowned(1, 3));
        check("drowned", x);
        long before = x.digest();
        x.sheet(0, 2, 7);
        x.lose(1);
        Due.is("34: sheets and findings are not in it", x.digest(), before);
        Due.end("DigestTest");
    }

    private static void check(String when, ColdMotor x) {
        List<Long> all = new ArrayList<>();
        for (int what = 0; what <= 7; what++) {
            all.add((long) x.count(what));
        }
        all.add((long) x.fault(0));
        all.add((long) x.fault(1));
        for (int what = 0; what <= 6; what++) {
            all.add((long) x.motor(what));
        }
        for (int trouble = 0; trouble < 5; trouble++) {
            all.add(x.trouble(trouble, 0));
            all.add(x.trouble(trouble, 1));
        }
        for (int act = 0; act < 10; act++) {
            all.add(x.chance(act, 2, 0));
            all.add(x.chance(act, 2, 1));
        }
        for (int act = 0; act < 10; act++) {
            all.add((long) x.parts(act));
        }
        for (int what = 0; what < 3; what++) {
            all.add(x.best(2, what));
        }
        for (int which = 0; which < 2; which++) {
            all.add(x.habit(which, 0));
            all.add(x.habit(which, 1));
        }
        all.add((long) x.has(-1));
        all.add(x.work(2));
        int[] sets = {0, 3, 31};
        for (int set : sets) {
            for (int what = 0; what < 8; what++) {
                all.add((long) x.state(set, what));
            }
        }
        all.add((long) x.drowned(0, 3));
        for (int what = 0; what < 4; what++) {
            all.add((long) x.fits(what));
        }
        long h = 17;
        for (long one : all) {
            h = 31 * h + one;
        }
        Due.is("34: " + when, x.digest(), h);
        Due.is("34: " + when + ", again", x.digest(), h);
    }
}
