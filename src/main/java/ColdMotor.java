import java.util.Arrays;

/**
 * A motor that will not start: its troubles, the acts that are tried on it, the signs that are
 * seen, and what may be told from them. The document's numbered promises are the measure.
 */
public final class ColdMotor {
    public static final int NONE = -1, BAD = -2, NOT = -3, FULL = -4;

    private static final int TEXTS = 2, MOTOR_BYTES = 60, HABIT_BYTES = 40;
    private static final int QUALITIES = 7, PRESS = 0, SPARK = 1, TIME = 2, DRAW = 3, COLD = 4,
            BATTERY = 5, LIGHT = 6;
    private static final int TROUBLES = 5, SETS = 32, PRESSLESS = 1, SPARKLESS = 2, STARVED = 4,
            LATE = 8, FROZEN = 16;
    private static final int ACTS = 10, TURNS = 4, WAIT = 4, DRY = 5, HEAT = 6, PRIME = 7,
            FILE = 8, SET = 9;
    private static final int SIGNS = 7, NOTHING = 0, COUGHS = 1, RUNS = 2, KICKS = 3, UNDONE = 4,
            WAS_WET = 5, WAS_DRY = 6;
    private static final int MOST_SEEN = 24, MOST_AHEAD = 3, SIXTEENTHS = 16;
    private static final int STATE_PARTS = 8, BYTE_BITS = 8;
    private static final int MOST_MORNINGS = 16, MOST_AGE = 40, MOST_COLD = 9, MOST_TURNS = 30;
    private static final int MOST_A = 9, MOST_B = 9, MOST_C = 3;
    private static final int SHEETS = 4, FORMS = 3, MOST_ITEMS = 48;
    private static final int NULL = 1, INDEX = 2, CAST = 3, STORE = 4, SIZE = 5;
    private static final int[] DIGEST_SETS = {0, 3, 31};

    private static final int LEAST_INT = 1 << 31;
    private static final long LEAST_LONG = 1L << 63;

    /** By the sixteenths of five troubles: what the odds of all sets come to together. */
    private static final long ALL_ODDS = 1L << 20;

    private final Text motorText = new Text(MOTOR_BYTES);
    private final Text habitText = new Text(HABIT_BYTES);
    private final Motor machine = new Motor();
    private final Plan plan = new Plan();
    private final Ahead before = new Ahead();
    private final Log seen = new Log();
    private final Belief belief = new Belief();
    private final Trial trial = new Trial();
    private final State scratch = new State();
    private final Mornings mornings = new Mornings();
    private final Sheet[] sheets = new Sheet[SHEETS];
    private int finding;

    public ColdMotor() {
        for (int s = 0; s < SHEETS; s++) {
            sheets[s] = new Sheet();
        }
    }

    // ---- texts

    public int type(int text, int b) {
        if (!isBelow(text, TEXTS) || !isBelow(b, 256)) {
            return BAD;
        }
        if (!textOf(text).takes(b)) {
            return FULL;
        }
        understand(text);
        return textOf(text).size;
    }

    public int wipe(int text) {
        if (!isBelow(text, TEXTS)) {
            return BAD;
        }
        int had = textOf(text).size;
        textOf(text).size = 0;
        understand(text);
        return had;
    }

    public int fault(int text) {
        if (!isBelow(text, TEXTS)) {
            return BAD;
        }
        return text == 0 ? machine.fault : plan.fault;
    }

    public int motor(int what) {
        return isBelow(what, QUALITIES) ? machine.values[what] : BAD;
    }

    // ---- what is seen

    public int ahead(int trouble, int v) {
        if (!isBelow(trouble, TROUBLES) || !isBelow(v, SIXTEENTHS + 1)) {
            return BAD;
        }
        int was = before.sixteenths[trouble];
        before.sixteenths[trouble] = v;
        belief.known = false;
        return was;
    }

    public int see(int act, int sign) {
        if (!isBelow(act, ACTS) || !isBelow(sign, SIGNS)) {
            return BAD;
        }
        if (!seen.takes(act, sign)) {
            return FULL;
        }
        belief.known = false;
        return seen.size;
    }

    public int read(int s) {
        if (!isBelow(s, SHEETS)) {
            return BAD;
        }
        Sheet from = sheets[s];
        if (from.isLost()) {
            return found(NULL);
        }
        int taken = 0;
        for (int i = 0; i + 1 < from.size; i += 2) {
            if (see(from.itemAt(i), from.itemAt(i + 1)) < 0) {
                break;
            }
            taken++;
        }
        return taken;
    }

    public int back() {
        if (seen.size <= 0) {
            return NOT;
        }
        seen.size--;
        belief.known = false;
        return seen.size;
    }

    public int left() {
        return Integer.bitCount(known().left);
    }

    public long odds(int set, int what) {
        if (!isBelow(set, SETS) || !isBelow(what, 2)) {
            return refusal(BAD);
        }
        Belief now = known();
        return now.total == 0 ? refusal(NOT) : told(now.weights[set], now.total, what);
    }

    public long trouble(int trouble, int what) {
        if (!isBelow(trouble, TROUBLES) || !isBelow(what, 2)) {
            return refusal(BAD);
        }
        Belief now = known();
        return now.total == 0 ? refusal(NOT) : told(now.weightWith(trouble), now.total, what);
    }

    public int state(int set, int what) {
        if (!isBelow(set, SETS) || !isBelow(what, STATE_PARTS)) {
            return BAD;
        }
        return State.partOf(known().states[set], what);
    }

    public int sign(int set, int act) {
        if (!isBelow(set, SETS) || !isBelow(act, ACTS)) {
            return BAD;
        }
        scratch.unpack(known().states[set]);
        return scratch.does(machine, act);
    }

    // ---- what next

    public long chance(int act, int sign, int what) {
        if (!isBelow(act, ACTS) || !isBelow(sign, SIGNS) || !isBelow(what, 2)) {
            return refusal(BAD);
        }
        Belief now = known();
        if (now.total == 0) {
            return refusal(NOT);
        }
        now.part(machine, now.left, act, 0);
        return told(now.weightBySign[0][sign], now.total, what);
    }

    public int parts(int act) {
        if (!isBelow(act, ACTS)) {
            return BAD;
        }
        Belief now = known();
        if (now.total == 0) {
            return NOT;
        }
        now.part(machine, now.left, act, 0);
        int unlike = 0;
        for (int sign = 0; sign < SIGNS; sign++) {
            unlike += now.bySign[0][sign] != 0 ? 1 : 0;
        }
        return unlike;
    }

    public long sure(int act, int what) {
        if (!isBelow(act, ACTS) || !isBelow(what, 2)) {
            return refusal(BAD);
        }
        Belief now = known();
        if (now.total == 0) {
            return refusal(NOT);
        }
        now.part(machine, now.left, act, 0);
        int likeliest = 0;
        for (int sign = 0; sign < SIGNS; sign++) {
            likeliest += now.heaviestOf(now.bySign[0][sign]);
        }
        return told(likeliest, now.total, what);
    }

    public long best(int k, int what) {
        if (k < 1 || k > MOST_AHEAD || !isBelow(what, 3)) {
            return refusal(BAD);
        }
        Belief now = known();
        if (now.total == 0) {
            return refusal(NOT);
        }
        if (now.bestAct[k] == NONE) {
            now.bestWeight[k] = now.weightRunning(machine, now.left, now.total, 0, k);
            now.bestAct[k] = now.choice[0];
        }
        return what == 2 ? now.bestAct[k] : told(now.bestWeight[k], now.total, what);
    }

    // ---- habits

    public long habit(int which, int what) {
        if (!isBelow(which, 2) || !isBelow(what, 2)) {
            return refusal(BAD);
        }
        if (plan.fault != NONE) {
            return refusal(NOT);
        }
        Trial all = tried();
        return told(which == 0 ? all.weightHaving(before, NONE) : all.actsDone(before), ALL_ODDS, what);
    }

    public int has(int set) {
        if (set != NONE && !isBelow(set, SETS)) {
            return BAD;
        }
        if (plan.fault != NONE) {
            return NOT;
        }
        int having = tried().having;
        return set == NONE ? Integer.bitCount(having) : having >>> set & 1;
    }

    public long work(int what) {
        if (!isBelow(what, 3)) {
            return refusal(BAD);
        }
        if (plan.fault != NONE) {
            return refusal(NOT);
        }
        Trial all = tried();
        int helped = 0;
        long most = NONE;
        for (int trouble = 0; trouble < TROUBLES; trouble++) {
            long weight = all.weightHaving(before, trouble);
            if (weight > most) {
                most = weight;
                helped = trouble;
            }
        }
        return what == 2 ? helped : told(most, ALL_ODDS, what);
    }

    public int drowned(int set, int choke) {
        if (!isBelow(set, SETS) || !isBelow(choke, TURNS)) {
            return BAD;
        }
        return scratch.turnsToDrown(machine, set, choke);
    }

    // ---- mornings

    public int morning(int age, int cold, int turns) {
        if (!isDay(age, cold) || !isBelow(turns, MOST_TURNS + 1)) {
            return BAD;
        }
        return mornings.takes(age, cold, turns) ? mornings.size : FULL;
    }

    public int says(int a, int b, int c, int age, int cold) {
        return isLaw(a, b, c) && isDay(age, cold) ? Mornings.lawSays(a, b, c, age, cold) : BAD;
    }

    public int misses(int a, int b, int c) {
        return isLaw(a, b, c) ? mornings.offBy(a, b, c) : BAD;
    }

    public int fits(int what) {
        if (!isBelow(what, 4)) {
            return BAD;
        }
        if (mornings.size <= 0) {
            return NOT;
        }
        mornings.findLaw();
        return mornings.law[what];
    }

    // ---- sheets

    public int sheet(int s, int form, int n) {
        if (!isBelow(s, SHEETS) || !isBelow(form, FORMS) || n > MOST_ITEMS) {
            return BAD;
        }
        if (n < 0) {
            return found(SIZE);
        }
        sheets[s].lay(form, n);
        return n;
    }

    public int lose(int s) {
        if (!isBelow(s, SHEETS)) {
            return BAD;
        }
        if (sheets[s].isLost()) {
            return found(NULL);
        }
        int had = sheets[s].size;
        sheets[s].lay(NONE, 0);
        return had;
    }

    public int put(int s, int form, int i, int v) {
        if (!isBelow(s, SHEETS) || !isBelow(form, FORMS)) {
            return BAD;
        }
        int wrong = sheets[s].wrongWith(form, i);
        if (wrong != 0) {
            return found(wrong);
        }
        sheets[s].keep(i, v);
        return 1;
    }

    public int get(int s, int form, int i) {
        if (!isBelow(s, SHEETS) || !isBelow(form, FORMS)) {
            return LEAST_INT;
        }
        int wrong = sheets[s].wrongWith(form, i);
        if (wrong != 0) {
            finding = wrong;
            return LEAST_INT;
        }
        return sheets[s].itemAt(i);
    }

    public int copy(int s, int i, int t, int j, int n) {
        if (!isBelow(s, SHEETS) || !isBelow(t, SHEETS)) {
            return BAD;
        }
        Sheet from = sheets[s];
        Sheet to = sheets[t];
        if (from.isLost() || to.isLost()) {
            return found(NULL);
        }
        if (from.form != to.form) {
            return found(STORE);
        }
        if (!from.holds(i, n) || !to.holds(j, n)) {
            return found(INDEX);
        }
        System.arraycopy(from.items, i, to.items, j, n);
        return 1;
    }

    public int write(int set, int s) {
        if (!isBelow(set, SETS) || !isBelow(s, SHEETS)) {
            return BAD;
        }
        Sheet to = sheets[s];
        if (to.isLost()) {
            return found(NULL);
        }
        int many = Math.min(to.size, seen.size);
        scratch.begin(machine, set);
        for (int i = 0; i < many; i++) {
            to.keep(i, scratch.does(machine, seen.actAt(i)));
        }
        return many;
    }

    public int count(int what) {
        switch (what) {
            case 0: return motorText.size;
            case 1: return habitText.size;
            case 2: return seen.size;
            case 3: return Integer.bitCount(known().left);
            case 4: return mornings.size;
            case 5: return before.together();
            case 6: return plan.size;
            case 7: return mornings.turnsTogether();
            case 8: return finding;
            default: return BAD;
        }
    }

    public long digest() {
        long h = 17;
        for (int what = 0; what < 8; what++) {
            h = 31 * h + count(what);
        }
        h = 31 * (31 * h + fault(0)) + fault(1);
        for (int what = 0; what < QUALITIES; what++) {
            h = 31 * h + motor(what);
        }
        for (int trouble = 0; trouble < TROUBLES; trouble++) {
            h = 31 * (31 * h + trouble(trouble, 0)) + trouble(trouble, 1);
        }
        for (int act = 0; act < ACTS; act++) {
            h = 31 * (31 * h + chance(act, RUNS, 0)) + chance(act, RUNS, 1);
        }
        for (int act = 0; act < ACTS; act++) {
            h = 31 * h + parts(act);
        }
        for (int what = 0; what < 3; what++) {
            h = 31 * h + best(2, what);
        }
        for (int which = 0; which < 2; which++) {
            h = 31 * (31 * h + habit(which, 0)) + habit(which, 1);
        }
        h = 31 * (31 * h + has(NONE)) + work(2);
        for (int i = 0; i < DIGEST_SETS.length; i++) {
            for (int what = 0; what < STATE_PARTS; what++) {
                h = 31 * h + state(DIGEST_SETS[i], what);
            }
        }
        h = 31 * h + drowned(0, 3);
        for (int what = 0; what < 4; what++) {
            h = 31 * h + fits(what);
        }
        return h;
    }

    private Text textOf(int text) {
        return text == 0 ? motorText : habitText;
    }

    /** What hangs on a text that has changed is read anew, so that no other call has to. */
    private void understand(int text) {
        if (text == 0) {
            machine.learn(motorText);
            belief.known = false;
        } else {
            plan.learn(habitText);
        }
        trial.known = false;
    }

    private Belief known() {
        if (!belief.known) {
            belief.learn(machine, seen, before);
        }
        return belief;
    }

    private Trial tried() {
        if (!trial.known) {
            trial.learn(machine, plan, scratch);
        }
        return trial;
    }

    private int found(int number) {
        finding = number;
        return -10 - number;
    }

    private static boolean isBelow(int value, int bound) {
        return value >= 0 && value < bound;
    }

    private static boolean isDay(int age, int cold) {
        return isBelow(age, MOST_AGE + 1) && isBelow(cold, MOST_COLD + 1);
    }

    private static boolean isLaw(int a, int b, int c) {
        return isBelow(a, MOST_A + 1) && isBelow(b, MOST_B + 1) && isBelow(c, MOST_C + 1);
    }

    private static long refusal(int code) {
        return LEAST_LONG - code;
    }

    private static long told(long above, long below, int what) {
        long common = commonDivisor(above, below);
        if (common == 0) {
            return what;
        }
        return (what == 0 ? above : below) / common;
    }

    private static long commonDivisor(long one, long other) {
        long a = one;
        long b = other;
        // Euclid needs fewer than a hundred steps for any two longs.
        for (int step = 0; step < 100 && b != 0; step++) {
            long rest = a % b;
            a = b;
            b = rest;
        }
        return a;
    }

    /** A text as it is typed. */
    private static final class Text {
        private final int[] bytes;
        int size;

        Text(int most) {
            bytes = new int[Math.max(0, most)];
        }

        boolean takes(int b) {
            if (size < 0 || size >= bytes.length) {
                return false;
            }
            bytes[size] = b;
            size++;
            return true;
        }

        /** NONE behind the end, which is unlike every byte, so that readers need no other test. */
        int byteAt(int i) {
            return i >= 0 && i < size && i < bytes.length ? bytes[i] : NONE;
        }

        int figureAt(int i) {
            int b = byteAt(i);
            return b >= '0' && b <= '9' ? b - '0' : NONE;
        }
    }

    /** What the MOTOR's text says. */
    private static final class Motor {
        private static final char[] LETTERS = {'p', 's', 't', 'd', 'c', 'b', 'm'};
        private static final int[] AT_FIRST = {7, 6, 10, 4, 4, 12, 60};
        private static final int[] MOST = {9, 9, 20, 9, 9, 30, 99};

        final int[] values = new int[QUALITIES];
        int fault = NONE;

        Motor() {
            reset();
        }

        void learn(Text text) {
            reset();
            fault = faultOf(text);
            if (fault != NONE) {
                reset();
            }
        }

        private void reset() {
            for (int what = 0; what < QUALITIES; what++) {
                values[what] = AT_FIRST[what];
            }
        }

        private int faultOf(Text text) {
            int place = 0;
            for (int part = 0; part < MOTOR_BYTES && text.size > 0; part++) {
                int what = qualityOf(text.byteAt(place));
                if (what == NONE) {
                    return place;
                }
                int first = text.figureAt(place + 1);
                int second = text.figureAt(place + 2);
                int number = second == NONE ? first : 10 * first + second;
                if (first == NONE || number > MOST[what]) {
                    return place + 1;
                }
                values[what] = number;
                place += second == NONE ? 2 : 3;
                if (place >= text.size) {
                    return NONE;
                }
                if (text.byteAt(place) != ';') {
                    return place;
                }
                place++;
            }
            return NONE;
        }

        private static int qualityOf(int b) {
            for (int what = 0; what < QUALITIES; what++) {
                if (LETTERS[what] == b) {
                    return what;
                }
            }
            return NONE;
        }
    }

    /** What the HABIT's text says: its ACTS, one by one. */
    private static final class Plan {
        // Ten parts of an act, a star and a nine fill the text.
        private static final int MOST = 90;

        private final int[] acts = new int[MOST];
        int size;
        int fault = NONE;

        void learn(Text text) {
            size = 0;
            fault = faultOf(text);
            if (fault != NONE) {
                size = 0;
            }
        }

        int actAt(int i) {
            return i >= 0 && i < size && i < MOST ? acts[i] : NONE;
        }

        private int faultOf(Text text) {
            int place = 0;
            for (int part = 0; part < HABIT_BYTES && text.size > 0; part++) {
                int act = text.figureAt(place);
                if (act == NONE) {
                    return place;
                }
                place++;
                int times = 1;
                if (text.byteAt(place) == '*') {
                    times = text.figureAt(place + 1);
                    if (times < 2) {
                        return place + 1;
                    }
                    place += 2;
                }
                add(act, times);
                if (place >= text.size) {
                    return NONE;
                }
                if (text.byteAt(place) != ',') {
                    return place;
                }
                place++;
            }
            return NONE;
        }

        private void add(int act, int times) {
            for (int i = 0; i < times && size >= 0 && size < MOST; i++) {
                acts[size] = act;
                size++;
            }
        }
    }

    /** ODDS ahead of the TROUBLES, each by itself. */
    private static final class Ahead {
        final int[] sixteenths = {3, 3, 3, 3, 3};

        /** Out of ALL_ODDS: how likely a SET is, if one TROUBLE (or NONE) was never there. */
        int weightOf(int set, int without) {
            int weight = 1;
            for (int trouble = 0; trouble < TROUBLES; trouble++) {
                int there = trouble == without ? 0 : sixteenths[trouble];
                weight *= (set >>> trouble & 1) == 1 ? there : SIXTEENTHS - there;
            }
            return weight;
        }

        int together() {
            int sum = 0;
            for (int trouble = 0; trouble < TROUBLES; trouble++) {
                sum += sixteenths[trouble];
            }
            return sum;
        }
    }

    /** ACTS that were done, each with the SIGN that was SEEN. */
    private static final class Log {
        private final int[] acts = new int[MOST_SEEN];
        private final int[] signs = new int[MOST_SEEN];
        int size;

        boolean takes(int act, int sign) {
            if (size < 0 || size >= MOST_SEEN) {
                return false;
            }
            acts[size] = act;
            signs[size] = sign;
            size++;
            return true;
        }

        int actAt(int i) {
            return isBelow(i, MOST_SEEN) ? acts[i] : NONE;
        }

        int signAt(int i) {
            return isBelow(i, MOST_SEEN) ? signs[i] : NONE;
        }
    }

    /** A STATE of the motor, and what ACTS do to it. */
    private static final class State {
        private static final int[] MINUTES = {1, 1, 1, 1, 10, 8, 6, 2, 12, 15};
        private static final int MOST_WET = 99, MOST_WARMTH = 20, DROWNING = 6, THAWED = 6;

        private int battery, light, wall, wet, warmth, spoon, troubles;
        boolean running;

        void begin(Motor motor, int set) {
            battery = motor.values[BATTERY];
            light = motor.values[LIGHT];
            wall = 0;
            wet = 0;
            warmth = 0;
            spoon = 0;
            troubles = set;
            running = false;
        }

        /**
         * A STATE in one number, a byte for each part in the order in which state() tells them
         * (no part ever comes to 256): rows of these are cheap to make and to copy.
         */
        long pack() {
            long packed = running ? 1 : 0;
            packed = packed << BYTE_BITS | troubles;
            packed = packed << BYTE_BITS | spoon;
            packed = packed << BYTE_BITS | warmth;
            packed = packed << BYTE_BITS | wet;
            packed = packed << BYTE_BITS | wall;
            packed = packed << BYTE_BITS | light;
            return packed << BYTE_BITS | battery;
        }

        void unpack(long packed) {
            battery = partOf(packed, 0);
            light = partOf(packed, 1);
            wall = partOf(packed, 2);
            wet = partOf(packed, 3);
            warmth = partOf(packed, 4);
            spoon = partOf(packed, 5);
            troubles = partOf(packed, 6);
            running = partOf(packed, 7) == 1;
        }

        static int partOf(long packed, int what) {
            return (int) (packed >>> BYTE_BITS * what) & 255;
        }

        /** The ACT is done; what it comes to is its SIGN. */
        int does(Motor motor, int act) {
            if (running || !isBelow(act, ACTS)) {
                return UNDONE;
            }
            int charge = act < TURNS ? 1 + motor.values[COLD] / 5 : 0;
            if (battery < charge || light < MINUTES[act]) {
                return UNDONE;
            }
            battery -= charge;
            light -= MINUTES[act];
            return act < TURNS ? turn(motor, act) : tend(motor, act);
        }

        private int turn(Motor motor, int choke) {
            boolean starved = (troubles & STARVED) != 0;
            boolean frozen = (troubles & FROZEN) != 0 && warmth < THAWED;
            int drawn = starved || frozen ? 0 : motor.values[DRAW] + 2 * choke;
            int laid = drawn * motor.values[COLD] / 10;
            int off = wall / 4;
            int mix = drawn + off + spoon - laid;
            wall += laid - off;
            spoon = 0;
            int sign = signOf(motor, mix);
            if (sign == RUNS) {
                running = true;
                return sign;
            }
            wet = Math.min(MOST_WET, wet + Math.max(0, mix - 9));
            warmth = Math.min(MOST_WARMTH, warmth + (sign == NOTHING ? 1 : 2));
            return sign;
        }

        private int signOf(Motor motor, int mix) {
            int fat = motor.values[SPARK] + battery / 8 - wet / 3;
            int push = motor.values[PRESS] + warmth / 6;
            int time = motor.values[TIME];
            fat -= (troubles & SPARKLESS) != 0 ? 5 : 0;
            push -= (troubles & PRESSLESS) != 0 ? 4 : 0;
            time -= (troubles & LATE) != 0 ? 6 : 0;
            if (mix >= 4 && mix <= 9 && fat >= 4 && push >= 5) {
                return time > 13 ? KICKS : time < 7 ? COUGHS : RUNS;
            }
            return mix >= 3 && mix <= 10 && fat >= 3 && push >= 4 ? COUGHS : NOTHING;
        }

        private int tend(Motor motor, int act) {
            switch (act) {
                case WAIT:
                    wet = Math.max(0, wet - 4);
                    warmth = Math.max(0, warmth - 1);
                    battery = Math.min(motor.values[BATTERY], battery + 1);
                    return NOTHING;
                case DRY:
                    return dry();
                case HEAT:
                    warmth = Math.min(MOST_WARMTH, warmth + 6);
                    return NOTHING;
                case PRIME:
                    spoon = 5;
                    return NOTHING;
                case FILE:
                    troubles &= ~SPARKLESS;
                    return NOTHING;
                case SET:
                    troubles &= ~LATE;
                    return NOTHING;
                default:
                    return UNDONE;
            }
        }

        private int dry() {
            int sign = wet > 0 ? WAS_WET : WAS_DRY;
            wet = 0;
            return sign;
        }

        int turnsToDrown(Motor motor, int set, int choke) {
            begin(motor, set);
            // Each turn takes LIGHT, of which there are 99 at most.
            for (int turns = 1; turns <= 100; turns++) {
                int sign = does(motor, choke);
                if (sign == RUNS || sign == UNDONE) {
                    return NONE;
                }
                if (wet >= DROWNING) {
                    return turns;
                }
            }
            return NONE;
        }
    }

    /** What may be told behind all that was SEEN: SETS that are LEFT, and what ACTS would show. */
    private static final class Belief {
        /** STATES by SET: behind what was SEEN, then behind one, two and three ACTS more. */
        final long[] states = new long[(MOST_AHEAD + 1) * SETS];
        /** ODDS of each SET, 0 of those that are not LEFT. */
        final int[] weights = new int[SETS];
        /** SETS as bits by the SIGN that they come to, for each ACT that is looked ahead. */
        final int[][] bySign = new int[MOST_AHEAD][SIGNS];
        final int[][] weightBySign = new int[MOST_AHEAD][SIGNS];
        final int[] bestAct = new int[MOST_AHEAD + 1];
        final int[] bestWeight = new int[MOST_AHEAD + 1];
        /** The best ACT that was found, by how many are looked ahead of it. */
        final int[] choice = new int[MOST_AHEAD];
        private final State state = new State();
        boolean known;
        int left;
        int total;

        void learn(Motor motor, Log seen, Ahead before) {
            left = 0;
            total = 0;
            boolean running = false;
            for (int set = 0; set < SETS; set++) {
                boolean agrees = true;
                state.begin(motor, set);
                for (int i = 0; i < seen.size && i < MOST_SEEN; i++) {
                    agrees &= state.does(motor, seen.actAt(i)) == seen.signAt(i);
                }
                states[set] = state.pack();
                weights[set] = agrees ? before.weightOf(set, NONE) : 0;
                total += weights[set];
                left |= weights[set] > 0 ? 1 << set : 0;
                running |= weights[set] > 0 && state.running;
            }
            // It runs behind the sign 2 alone, so that sets that are left agree in whether it
            // does; then every act is as good, and the first is the least.
            Arrays.fill(bestAct, running ? 0 : NONE);
            Arrays.fill(bestWeight, total);
            known = true;
        }

        int weightWith(int trouble) {
            int weight = 0;
            for (int set = 0; set < SETS; set++) {
                weight += (set >>> trouble & 1) * weights[set];
            }
            return weight;
        }

        int heaviestOf(int group) {
            int heaviest = 0;
            for (int set = 0; set < SETS; set++) {
                heaviest = Math.max(heaviest, (group >>> set & 1) * weights[set]);
            }
            return heaviest;
        }

        /** Parts a group of SETS by the SIGN of an ACT that is done behind so many others. */
        void part(Motor motor, int group, int act, int depth) {
            if (!isBelow(depth, MOST_AHEAD)) {
                return;
            }
            Arrays.fill(bySign[depth], 0);
            Arrays.fill(weightBySign[depth], 0);
            for (int set = 0; set < SETS && group >>> set != 0; set++) {
                if ((group >>> set & 1) == 0) {
                    continue;
                }
                state.unpack(states[depth * SETS + set]);
                int sign = state.does(motor, act);
                states[(depth + 1) * SETS + set] = state.pack();
                if (isBelow(sign, SIGNS)) {
                    bySign[depth][sign] |= 1 << set;
                    weightBySign[depth][sign] += weights[set];
                }
            }
        }

        /** By how much of a group's whole odds it runs within so many ACTS, if each is the best. */
        private int weightRunning(Motor motor, int group, int whole, int depth, int acts) {
            if (!isBelow(depth, MOST_AHEAD)) {
                return 0;
            }
            int most = NONE;
            // By the last act it can only run if it is a turn; among acts that do nothing for it
            // the first is the least of all.
            int choices = acts <= 1 ? TURNS : ACTS;
            for (int act = 0; act < choices && most < whole; act++) {
                part(motor, group, act, depth);
                int weight = weightBySign[depth][RUNS];
                for (int sign = 0; sign < SIGNS && acts > 1; sign++) {
                    int rest = bySign[depth][sign];
                    if (sign != RUNS && rest != 0) {
                        weight += weightRunning(motor, rest, weightBySign[depth][sign], depth + 1, acts - 1);
                    }
                }
                if (weight > most) {
                    most = weight;
                    choice[depth] = act;
                }
            }
            return most;
        }
    }

    /** The HABIT, as it goes with each SET. */
    private static final class Trial {
        private final int[] done = new int[SETS];
        boolean known;
        int having;

        void learn(Motor motor, Plan plan, State state) {
            having = 0;
            for (int set = 0; set < SETS; set++) {
                state.begin(motor, set);
                done[set] = 0;
                for (int i = 0; i < plan.size && i < Plan.MOST; i++) {
                    done[set] += state.does(motor, plan.actAt(i)) == UNDONE ? 0 : 1;
                }
                having |= state.running ? 1 << set : 0;
            }
            known = true;
        }

        long weightHaving(Ahead before, int without) {
            long weight = 0;
            for (int set = 0; set < SETS; set++) {
                weight += (having >>> set & 1) * before.weightOf(set, without);
            }
            return weight;
        }

        long actsDone(Ahead before) {
            long acts = 0;
            for (int set = 0; set < SETS; set++) {
                acts += (long) done[set] * before.weightOf(set, NONE);
            }
            return acts;
        }
    }

    /** MORNINGS, and the LAW that fits them. */
    private static final class Mornings {
        private final int[] ages = new int[MOST_MORNINGS];
        private final int[] colds = new int[MOST_MORNINGS];
        private final int[] turns = new int[MOST_MORNINGS];
        /** a, b, c and the misses of the law that fits, in the order in which fits() tells them. */
        final int[] law = new int[4];
        private boolean lawKnown;
        int size;

        boolean takes(int age, int cold, int turned) {
            if (!isBelow(size, MOST_MORNINGS)) {
                return false;
            }
            ages[size] = age;
            colds[size] = cold;
            turns[size] = turned;
            size++;
            lawKnown = false;
            return true;
        }

        static int lawSays(int a, int b, int c, int age, int cold) {
            return a + b * age / 10 + c * cold;
        }

        int offBy(int a, int b, int c) {
            int off = 0;
            for (int i = 0; i < size && i < MOST_MORNINGS; i++) {
                off += Math.abs(lawSays(a, b, c, ages[i], colds[i]) - turns[i]);
            }
            return off;
        }

        int turnsTogether() {
            // A law that always says 0 is off by all turns.
            return offBy(0, 0, 0);
        }

        void findLaw() {
            if (lawKnown) {
                return;
            }
            // The least of all laws is the one to beat, whichever fitted before.
            Arrays.fill(law, 0);
            law[3] = offBy(0, 0, 0);
            for (int a = 0; a <= MOST_A; a++) {
                for (int b = 0; b <= MOST_B; b++) {
                    for (int c = 0; c <= MOST_C; c++) {
                        takeIfBetter(a, b, c);
                    }
                }
            }
            lawKnown = true;
        }

        private void takeIfBetter(int a, int b, int c) {
            int off = offBy(a, b, c);
            if (off < law[3]) {
                law[0] = a;
                law[1] = b;
                law[2] = c;
                law[3] = off;
            }
        }
    }

    /** A SHEET: LOST as long as it has no form. */
    private static final class Sheet {
        // One row for all its lives, so that no call makes another.
        final int[] items = new int[MOST_ITEMS];
        int form = NONE;
        int size;

        boolean isLost() {
            return form == NONE;
        }

        void lay(int newForm, int n) {
            Arrays.fill(items, 0);
            form = newForm;
            size = n;
        }

        /** The FINDING that item i, treated as of a FORM, comes to; 0 if it is well. */
        int wrongWith(int asForm, int i) {
            if (isLost()) {
                return NULL;
            }
            if (form != asForm) {
                return CAST;
            }
            return isBelow(i, size) ? 0 : INDEX;
        }

        boolean holds(int from, int n) {
            return from >= 0 && from <= size && n >= 0 && n <= size - from;
        }

        int itemAt(int i) {
            return isBelow(i, size) && i < MOST_ITEMS ? items[i] : 0;
        }

        void keep(int i, int v) {
            if (isBelow(i, size) && i < MOST_ITEMS) {
                items[i] = form == 0 ? (byte) v : form == 1 ? (short) v : v;
            }
        }
    }
}
