import java.util.Random;

/** Random runs of calls on the class and on the model side by side. */
public final class ModelTest {
    private static final int RUNS = 200, CALLS = 240;
    private static Random random;
    private static ColdMotor x;
    private static Model m;
    private static String where;

    public static void main(String[] args) {
        for (int run = 0; run < RUNS && !Due.anyWrong(); run++) {
            random = new Random(run);
            x = new ColdMotor();
            m = new Model();
            int hidden = random.nextInt(32);
            for (int call = 0; call < CALLS; call++) {
                where = "run " + run + " call " + call + " motor " + m.texts[0] + " habit " + m.texts[1] + ": ";
                step(hidden, call);
            }
            due("digest()", x.digest(), m.digest());
        }
        Due.end("ModelTest");
    }

    private static void due(String call, long got, long want) {
        Due.is(where + call, got, want);
    }

    /** Mostly a number that may be, at times one just or far outside. */
    private static int pick(int most) {
        switch (random.nextInt(40)) {
            case 0: return -1;
            case 1: return most + 1;
            case 2: return random.nextBoolean() ? Integer.MIN_VALUE : Integer.MAX_VALUE;
            default: return random.nextInt(most + 1);
        }
    }

    private static void step(int hidden, int call) {
        int kind = random.nextInt(34);
        if (call < 4 || kind == 0) {
            texts(call);
        } else if (kind < 9) {
            seen(kind, hidden);
        } else if (kind < 17) {
            odds(kind);
        } else if (kind < 23) {
            habits(kind);
        } else if (kind < 26) {
            mornings(kind);
        } else {
            sheets(kind);
        }
    }

    private static void texts(int call) {
        int text = call < 4 ? call % 2 : pick(1);
        if (call >= 2 || random.nextInt(3) > 0) {
            due("wipe", x.wipe(text), m.wipe(text));
            String made = text == 1 ? habitText() : motorText();
            for (int i = 0; i < made.length(); i++) {
                int b = made.charAt(i);
                due("type " + b, x.type(text, b), m.type(text, b));
            }
        }
        int odd = pick(255);
        if (random.nextInt(6) == 0) {
            due("type " + odd, x.type(text, odd), m.type(text, odd));
        }
        due("fault", x.fault(text), m.fault(text));
        for (int what = -1; what < 8; what++) {
            due("motor " + what, x.motor(what), m.motor(what));
        }
    }

    private static String motorText() {
        StringBuilder made = new StringBuilder();
        int parts = random.nextInt(8);
        for (int i = 0; i < parts; i++) {
            int what = random.nextInt(7);
            int most = Model.HIGHEST[what] + (random.nextInt(25) == 0 ? 1 : 0);
            int number = random.nextInt(4) == 0 ? most : random.nextInt(most + 1);
            made.append(i == 0 ? "" : ";").append("pstdcbm".charAt(what));
            made.append(number < 10 && random.nextInt(6) == 0 ? "0" : "").append(number);
        }
        return spoil(made, ";p9q0");
    }

    private static String habitText() {
        StringBuilder made = new StringBuilder();
        int parts = random.nextInt(11);
        for (int i = 0; i < parts; i++) {
            made.append(i == 0 ? "" : ",").append(random.nextInt(10));
            made.append(random.nextInt(3) == 0 ? "*" + (2 + random.nextInt(8)) : "");
        }
        return spoil(made, ",*19x");
    }

    private static String spoil(StringBuilder made, String with) {
        if (random.nextInt(8) == 0) {
            made.insert(random.nextInt(made.length() + 1), with.charAt(random.nextInt(with.length())));
        }
        return made.toString();
    }

    private static void seen(int kind, int hidden) {
        int act = pick(9);
        int sign = pick(6);
        if (kind == 1) {
            int t = pick(4);
            int v = random.nextInt(3) == 0 ? 16 * random.nextInt(2) : pick(16);
            due("ahead", x.ahead(t, v), m.ahead(t, v));
        } else if (kind < 4) {
            int like = Math.max(0, Math.min(9, act));
            int told = m.sign(hidden, like);
            due("see", x.see(like, told), m.see(like, told));
        } else if (kind == 4) {
            if (random.nextInt(5) == 0) {
                due("see", x.see(act, sign), m.see(act, sign));
            }
        } else if (kind == 5) {
            int s = pick(3);
            if (random.nextInt(5) == 0) {
                due("read " + s, x.read(s), m.read(s));
            }
        } else {
            int many = random.nextInt(4) == 0 ? 5 : 1;
            for (int i = 0; i < many; i++) {
                due("back", x.back(), m.back());
            }
        }
        due("left", x.left(), m.left());
    }

    private static void odds(int kind) {
        int set = pick(31);
        int act = pick(9);
        int what = pick(1);
        if (kind == 9) {
            due("odds", x.odds(set, what), m.odds(set, what));
        } else if (kind == 10) {
            int t = pick(4);
            due("trouble", x.trouble(t, what), m.trouble(t, what));
        } else if (kind == 11) {
            int part = pick(7);
            due("state " + set + " " + part, x.state(set, part), m.state(set, part));
        } else if (kind == 12) {
            due("sign " + set + " " + act, x.sign(set, act), m.sign(set, act));
        } else if (kind == 13) {
            int sign = pick(6);
            due("chance", x.chance(act, sign, what), m.chance(act, sign, what));
        } else if (kind == 14) {
            due("parts", x.parts(act), m.parts(act));
        } else if (kind == 15) {
            due("sure", x.sure(act, what), m.sure(act, what));
        } else {
            int k = random.nextInt(3) == 0 ? pick(3) : 1 + random.nextInt(2);
            int part = pick(2);
            due("best " + k + " " + part, x.best(k, part), m.best(k, part));
        }
    }

    private static void habits(int kind) {
        int set = random.nextInt(4) == 0 ? -1 : pick(31);
        int what = pick(1);
        if (kind < 19) {
            int which = pick(1);
            due("habit " + which + " " + what, x.habit(which, what), m.habit(which, what));
        } else if (kind == 19) {
            due("has " + set, x.has(set), m.has(set));
        } else if (kind == 20) {
            int part = pick(2);
            due("work " + part, x.work(part), m.work(part));
        } else if (kind == 21) {
            int choke = pick(3);
            due("drowned " + set + " " + choke, x.drowned(set, choke), m.drowned(set, choke));
        } else {
            int part = pick(8);
            due("count " + part, x.count(part), m.count(part));
        }
    }

    private static void mornings(int kind) {
        int age = pick(40);
        int cold = pick(9);
        int a = pick(9);
        int b = pick(9);
        int c = pick(3);
        if (kind == 23) {
            int turns = pick(30);
            due("morning", x.morning(age, cold, turns), m.morning(age, cold, turns));
        } else if (kind == 24) {
            due("says", x.says(a, b, c, age, cold), m.says(a, b, c, age, cold));
            due("misses", x.misses(a, b, c), m.misses(a, b, c));
        } else {
            int what = pick(3);
            due("fits", x.fits(what), m.fits(what));
        }
    }

    private static void sheets(int kind) {
        int s = pick(3);
        int form = pick(2);
        int i = pick(random.nextBoolean() ? 6 : 48);
        int n = pick(random.nextBoolean() ? 6 : 48);
        if (kind == 26) {
            due("sheet", x.sheet(s, form, n), m.sheet(s, form, n));
        } else if (kind == 27) {
            if (random.nextInt(3) == 0) {
                due("lose", x.lose(s), m.lose(s));
            }
        } else if (kind < 30) {
            int like = s >= 0 && s < 4 && random.nextInt(4) > 0 ? m.forms[s] : form;
            int v = random.nextBoolean() ? random.nextInt(8) : random.nextInt();
            due("put", x.put(s, like, i, v), m.put(s, like, i, v));
        } else if (kind == 30) {
            int like = s >= 0 && s < 4 && random.nextInt(4) > 0 ? m.forms[s] : form;
            due("get", x.get(s, like, i), m.get(s, like, i));
        } else if (kind == 31) {
            int t = random.nextBoolean() ? s : pick(3);
            int j = pick(6);
            due("copy", x.copy(s, i, t, j, n), m.copy(s, i, t, j, n));
        } else {
            int set = pick(31);
            due("write", x.write(set, s), m.write(set, s));
        }
        due("count 8", x.count(8), m.count(8));
    }
}
