/** Every call of the face by its name, and which numbers each of its arguments may be. */
enum Calls {
    TYPE(0, 1, 0, 255), WIPE(0, 1), FAULT(0, 1), MOTOR(0, 6),
    AHEAD(0, 4, 0, 16), SEE(0, 9, 0, 6), READ(0, 3), BACK, LEFT, ODDS(0, 31, 0, 1), TROUBLE(0, 4, 0, 1),
    STATE(0, 31, 0, 7), SIGN(0, 31, 0, 9),
    CHANCE(0, 9, 0, 6, 0, 1), PARTS(0, 9), SURE(0, 9, 0, 1), BEST(1, 3, 0, 2),
    HABIT(0, 1, 0, 1), HAS(-1, 31), WORK(0, 2), DROWNED(0, 31, 0, 3),
    MORNING(0, 40, 0, 9, 0, 30), SAYS(0, 9, 0, 9, 0, 3, 0, 40, 0, 9), MISSES(0, 9, 0, 9, 0, 3), FITS(0, 3),
    SHEET(0, 3, 0, 2, Integer.MIN_VALUE, 48), LOSE(0, 3),
    PUT(0, 3, 0, 2, Integer.MIN_VALUE, Integer.MAX_VALUE, Integer.MIN_VALUE, Integer.MAX_VALUE),
    GET(0, 3, 0, 2, Integer.MIN_VALUE, Integer.MAX_VALUE),
    COPY(0, 3, Integer.MIN_VALUE, Integer.MAX_VALUE, 0, 3, Integer.MIN_VALUE, Integer.MAX_VALUE,
        Integer.MIN_VALUE, Integer.MAX_VALUE),
    WRITE(0, 31, 0, 3), COUNT(0, 8), DIGEST;

    private final int[] bounds;

    Calls(int... bounds) {
        this.bounds = bounds;
    }

    int arguments() {
        return bounds.length / 2;
    }

    int low(int argument) {
        return bounds[2 * argument];
    }

    int high(int argument) {
        return bounds[2 * argument + 1];
    }

    /** What BAD is told as. */
    long bad() {
        switch (this) {
            case ODDS: case TROUBLE: case CHANCE: case SURE: case BEST: case HABIT: case WORK:
                return Long.MIN_VALUE + 2;
            case GET:
                return Integer.MIN_VALUE;
            default:
                return -2;
        }
    }

    String told(int... a) {
        StringBuilder made = new StringBuilder(name().toLowerCase()).append('(');
        for (int i = 0; i < a.length; i++) {
            made.append(i == 0 ? "" : ", ").append(a[i]);
        }
        return made.append(')').toString();
    }

    long on(ColdMotor x, int... a) {
        switch (this) {
            case TYPE: return x.type(a[0], a[1]);
            case WIPE: return x.wipe(a[0]);
            case FAULT: return x.fault(a[0]);
            case MOTOR: return x.motor(a[0]);
            case AHEAD: return x.ahead(a[0], a[1]);
            case SEE: return x.see(a[0], a[1]);
            case READ: return x.read(a[0]);
            case BACK: return x.back();
            case LEFT: return x.left();
            case ODDS: return x.odds(a[0], a[1]);
            case TROUBLE: return x.trouble(a[0], a[1]);
            case STATE: return x.state(a[0], a[1]);
            case SIGN: return x.sign(a[0], a[1]);
            case CHANCE: return x.chance(a[0], a[1], a[2]);
            case PARTS: return x.parts(a[0]);
            case SURE: return x.sure(a[0], a[1]);
            case BEST: return x.best(a[0], a[1]);
            case HABIT: return x.habit(a[0], a[1]);
            case HAS: return x.has(a[0]);
            case WORK: return x.work(a[0]);
            case DROWNED: return x.drowned(a[0], a[1]);
            case MORNING: return x.morning(a[0], a[1], a[2]);
            case SAYS: return x.says(a[0], a[1], a[2], a[3], a[4]);
            case MISSES: return x.misses(a[0], a[1], a[2]);
            case FITS: return x.fits(a[0]);
            case SHEET: return x.sheet(a[0], a[1], a[2]);
            case LOSE: return x.lose(a[0]);
            case PUT: return x.put(a[0], a[1], a[2], a[3]);
            case GET: return x.get(a[0], a[1], a[2]);
            case COPY: return x.copy(a[0], a[1], a[2], a[3], a[4]);
            case WRITE: return x.write(a[0], a[1]);
            case COUNT: return x.count(a[0]);
            default: return x.digest();
        }
    }
}
