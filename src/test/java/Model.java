import java.math.BigInteger;
import java.util.ArrayList;
import java.util.Arrays;
import java.util.List;
import java.util.TreeMap;
import java.util.regex.Matcher;
import java.util.regex.Pattern;

/**
 * The document once more, read afresh and written another way than the class: everything is
 * worked out anew at each call, with fractions of any size and no rows that are kept.
 */
final class Model {
    static final String LETTERS = "pstdcbm";
    static final int[] FIRST = {7, 6, 10, 4, 4, 12, 60};
    static final int[] HIGHEST = {9, 9, 20, 9, 9, 30, 99};
    static final int[] MINUTES = {1, 1, 1, 1, 10, 8, 6, 2, 12, 15};

    final StringBuilder[] texts = {new StringBuilder(), new StringBuilder()};
    final int[] ahead = {3, 3, 3, 3, 3};
    final List<int[]> seen = new ArrayList<>();
    final List<int[]> mornings = new ArrayList<>();
    final int[][] sheets = new int[4][];
    final int[] forms = new int[4];
    int finding = 0;

    static boolean out(int v, int low, int high) {
        return v < low || v > high;
    }

    static long longOf(int refusal) {
        return Long.MIN_VALUE + -refusal;
    }

    int found(int number) {
        finding = number;
        return -10 - number;
    }

    // ---- texts

    int type(int text, int b) {
        if (out(text, 0, 1) || out(b, 0, 255)) return -2;
        if (texts[text].length() == (text == 0 ? 60 : 40)) return -4;
        return texts[text].append((char) b).length();
    }

    int wipe(int text) {
        if (out(text, 0, 1)) return -2;
        int had = texts[text].length();
        texts[text].setLength(0);
        return had;
    }

    /** The longest beginning that some well text has, or the first figure of a wrong number. */
    int fault(int text) {
        if (out(text, 0, 1)) return -2;
        String t = texts[text].toString();
        if (t.isEmpty()) return -1;
        Pattern part = Pattern.compile(text == 0 ? "([pstdcbm])([0-9]{1,2})" : "([0-9])(?:\\*([2-9]))?");
        Matcher m = part.matcher(t);
        int at = 0;
        while (true) {
            m.region(at, t.length());
            if (!m.lookingAt()) {
                if (at < t.length() && text == 0 && LETTERS.indexOf(t.charAt(at)) >= 0) return at + 1;
                return at;
            }
            if (text == 0 && Integer.parseInt(m.group(2)) > HIGHEST[LETTERS.indexOf(m.group(1))]) return m.start(2);
            at = m.end();
            if (at == t.length()) return -1;
            if (text == 1 && t.charAt(at) == '*' && m.group(2) == null) return at + 1;
            if (t.charAt(at) != (text == 0 ? ';' : ',')) return at;
            at++;
        }
    }

    int motor(int what) {
        if (out(what, 0, 6)) return -2;
        int value = FIRST[what];
        if (fault(0) == -1 && texts[0].length() > 0) {
            for (String part : texts[0].toString().split(";")) {
                if (part.charAt(0) == LETTERS.charAt(what)) value = Integer.parseInt(part.substring(1));
            }
        }
        return value;
    }

    // ---- the state and the laws

    final class St {
        final int[] m;
        int battery, light, wall, wet, warmth, spoon, set;
        boolean runs;

        St(int set) {
            m = new int[] {motor(0), motor(1), motor(2), motor(3), motor(4), motor(5), motor(6)};
            battery = m[5];
            light = m[6];
            this.set = set;
        }

        St(St o) {
            m = o.m;
            battery = o.battery;
            light = o.light;
            wall = o.wall;
            wet = o.wet;
            warmth = o.warmth;
            spoon = o.spoon;
            set = o.set;
            runs = o.runs;
        }

        boolean trouble(int t) {
            return (set & 1 << t) != 0;
        }

        int act(int a) {
            int needs = a <= 3 ? 1 + m[4] / 5 : 0;
            if (runs || battery < needs || light < MINUTES[a]) return 4;
            light -= MINUTES[a];
            battery -= needs;
            if (a <= 3) return crank(a);
            if (a == 4) {
                wet = wet < 4 ? 0 : wet - 4;
                warmth = warmth < 1 ? 0 : warmth - 1;
                if (battery < m[5]) battery++;
            }
            if (a == 5) {
                boolean was = wet != 0;
                wet = 0;
                return was ? 5 : 6;
            }
            if (a == 6) warmth = warmth > 14 ? 20 : warmth + 6;
            if (a == 7) spoon = 5;
            if (a == 8 && trouble(1)) set -= 2;
            if (a == 9 && trouble(3)) set -= 8;
            return 0;
        }

        int crank(int choke) {
            int press = m[0], spark = m[1], time = m[2], drawn = m[3] + choke + choke;
            if (trouble(0)) press -= 4;
            if (trouble(1)) spark -= 5;
            if (trouble(2)) drawn = 0;
            if (trouble(3)) time -= 6;
            if (trouble(4) && warmth <= 5) drawn = 0;
            int laid = (drawn * m[4]) / 10;
            int off = wall / 4;
            int mix = drawn + off + spoon - laid;
            int fat = spark + battery / 8 - wet / 3;
            int push = press + warmth / 6;
            wall = wall + laid - off;
            spoon = 0;
            int sign = 0;
            if (4 <= mix && mix <= 9 && 4 <= fat && 5 <= push) {
                sign = 2;
                if (time >= 14) sign = 3;
                if (time <= 6) sign = 1;
            } else if (3 <= mix && mix <= 10 && 3 <= fat && 4 <= push) {
                sign = 1;
            }
            if (sign == 2) {
                runs = true;
                return 2;
            }
            if (mix > 9) wet += mix - 9;
            if (wet > 99) wet = 99;
            warmth += sign == 0 ? 1 : 2;
            if (warmth > 20) warmth = 20;
            return sign;
        }
    }

    St behind(int set) {
        St st = new St(set);
        for (int[] one : seen) st.act(one[0]);
        return st;
    }

    boolean agrees(int set) {
        St st = new St(set);
        for (int[] one : seen) if (st.act(one[0]) != one[1]) return false;
        return true;
    }

    BigInteger weight(int set, int without) {
        BigInteger w = BigInteger.ONE;
        for (int t = 0; t < 5; t++) {
            int v = t == without ? 0 : ahead[t];
            w = w.multiply(BigInteger.valueOf((set & 1 << t) != 0 ? v : 16 - v));
        }
        return w;
    }

    BigInteger weight(int set) {
        return weight(set, -1);
    }

    List<Integer> leftSets() {
        List<Integer> sets = new ArrayList<>();
        for (int set = 0; set < 32; set++) if (weight(set).signum() > 0 && agrees(set)) sets.add(set);
        return sets;
    }

    BigInteger sum(List<Integer> sets) {
        BigInteger all = BigInteger.ZERO;
        for (int set : sets) all = all.add(weight(set));
        return all;
    }

    static long told(BigInteger above, BigInteger below, int what) {
        BigInteger g = above.gcd(below);
        return (what == 0 ? above : below).divide(g).longValueExact();
    }

    // ---- what is seen

    int ahead(int trouble, int v) {
        if (out(trouble, 0, 4) || out(v, 0, 16)) return -2;
        int was = ahead[trouble];
        ahead[trouble] = v;
        return was;
    }

    int see(int act, int sign) {
        if (out(act, 0, 9) || out(sign, 0, 6)) return -2;
        if (seen.size() == 24) return -4;
        seen.add(new int[] {act, sign});
        return seen.size();
    }

    int read(int s) {
        if (out(s, 0, 3)) return -2;
        if (sheets[s] == null) return found(1);
        int took = 0;
        while (2 * took + 1 < sheets[s].length && see(sheets[s][2 * took], sheets[s][2 * took + 1]) > 0) took++;
        return took;
    }

    int back() {
        if (seen.isEmpty()) return -3;
        seen.remove(seen.size() - 1);
        return seen.size();
    }

    int left() {
        return leftSets().size();
    }

    long odds(int set, int what) {
        if (out(set, 0, 31) || out(what, 0, 1)) return longOf(-2);
        List<Integer> sets = leftSets();
        if (sets.isEmpty()) return longOf(-3);
        return told(sets.contains(set) ? weight(set) : BigInteger.ZERO, sum(sets), what);
    }

    long trouble(int trouble, int what) {
        if (out(trouble, 0, 4) || out(what, 0, 1)) return longOf(-2);
        List<Integer> sets = leftSets();
        if (sets.isEmpty()) return longOf(-3);
        List<Integer> with = new ArrayList<>();
        for (int set : sets) if ((set & 1 << trouble) != 0) with.add(set);
        return told(sum(with), sum(sets), what);
    }

    int state(int set, int what) {
        if (out(set, 0, 31) || out(what, 0, 7)) return -2;
        St st = behind(set);
        return new int[] {st.battery, st.light, st.wall, st.wet, st.warmth, st.spoon, st.set, st.runs ? 1 : 0}[what];
    }

    int sign(int set, int act) {
        return out(set, 0, 31) || out(act, 0, 9) ? -2 : behind(set).act(act);
    }

    // ---- what next

    TreeMap<Integer, List<Integer>> groups(int act) {
        TreeMap<Integer, List<Integer>> by = new TreeMap<>();
        for (int set : leftSets()) by.computeIfAbsent(behind(set).act(act), k -> new ArrayList<>()).add(set);
        return by;
    }

    long chance(int act, int sign, int what) {
        if (out(act, 0, 9) || out(sign, 0, 6) || out(what, 0, 1)) return longOf(-2);
        if (leftSets().isEmpty()) return longOf(-3);
        return told(sum(groups(act).getOrDefault(sign, List.of())), sum(leftSets()), what);
    }

    int parts(int act) {
        if (out(act, 0, 9)) return -2;
        return leftSets().isEmpty() ? -3 : groups(act).size();
    }

    long sure(int act, int what) {
        if (out(act, 0, 9) || out(what, 0, 1)) return longOf(-2);
        if (leftSets().isEmpty()) return longOf(-3);
        BigInteger all = BigInteger.ZERO;
        for (List<Integer> group : groups(act).values()) {
            BigInteger top = BigInteger.ZERO;
            for (int set : group) top = top.max(weight(set));
            all = all.add(top);
        }
        return told(all, sum(leftSets()), what);
    }

    /** The odds with which it runs by this act and k - 1 chosen ones; sets with their states. */
    BigInteger within(TreeMap<Integer, St> group, int act, int k) {
        BigInteger all = BigInteger.ZERO;
        TreeMap<Integer, TreeMap<Integer, St>> by = new TreeMap<>();
        for (int set : group.keySet()) {
            St st = new St(group.get(set));
            boolean ran = st.runs;
            int sign = st.act(act);
            if (ran || st.runs) all = all.add(weight(set));
            else by.computeIfAbsent(sign, s -> new TreeMap<>()).put(set, st);
        }
        if (k > 1) {
            for (TreeMap<Integer, St> rest : by.values()) {
                BigInteger top = BigInteger.ZERO;
                for (int next = 0; next < 10; next++) top = top.max(within(rest, next, k - 1));
                all = all.add(top);
            }
        }
        return all;
    }

    long best(int k, int what) {
        if (out(k, 1, 3) || out(what, 0, 2)) return longOf(-2);
        if (leftSets().isEmpty()) return longOf(-3);
        TreeMap<Integer, St> group = new TreeMap<>();
        for (int set : leftSets()) group.put(set, behind(set));
        BigInteger top = BigInteger.ONE.negate();
        int best = 0;
        for (int act = 0; act < 10; act++) {
            BigInteger w = within(group, act, k);
            if (w.compareTo(top) > 0) {
                top = w;
                best = act;
            }
        }
        return what == 2 ? best : told(top, sum(leftSets()), what);
    }

    // ---- habits

    List<Integer> acts() {
        List<Integer> acts = new ArrayList<>();
        if (fault(1) != -1 || texts[1].length() == 0) return acts;
        for (String part : texts[1].toString().split(",")) {
            int times = part.length() == 1 ? 1 : part.charAt(2) - '0';
            for (int i = 0; i < times; i++) acts.add(part.charAt(0) - '0');
        }
        return acts;
    }

    /** How many acts are done, and below 0 (its complement) if it does not run. */
    int trial(int set) {
        St st = new St(set);
        int done = 0;
        for (int act : acts()) {
            if (st.runs) break;
            if (st.act(act) != 4) done++;
        }
        return st.runs ? done : ~done;
    }

    BigInteger habitWeight(int without) {
        BigInteger all = BigInteger.ZERO;
        for (int set = 0; set < 32; set++) if (trial(set) >= 0) all = all.add(weight(set, without));
        return all;
    }

    long habit(int which, int what) {
        if (out(which, 0, 1) || out(what, 0, 1)) return longOf(-2);
        if (fault(1) != -1) return longOf(-3);
        BigInteger all = habitWeight(-1);
        if (which == 1) {
            all = BigInteger.ZERO;
            for (int set = 0; set < 32; set++) {
                int done = trial(set);
                all = all.add(weight(set).multiply(BigInteger.valueOf(done < 0 ? ~done : done)));
            }
        }
        return told(all, BigInteger.valueOf(16).pow(5), what);
    }

    int has(int set) {
        if (out(set, -1, 31)) return -2;
        if (fault(1) != -1) return -3;
        if (set >= 0) return trial(set) >= 0 ? 1 : 0;
        int many = 0;
        for (int one = 0; one < 32; one++) many += has(one);
        return many;
    }

    long work(int what) {
        if (out(what, 0, 2)) return longOf(-2);
        if (fault(1) != -1) return longOf(-3);
        int best = 0;
        for (int t = 1; t < 5; t++) if (habitWeight(t).compareTo(habitWeight(best)) > 0) best = t;
        return what == 2 ? best : told(habitWeight(best), BigInteger.valueOf(16).pow(5), what);
    }

    int drowned(int set, int choke) {
        if (out(set, 0, 31) || out(choke, 0, 3)) return -2;
        St st = new St(set);
        int turns = 0;
        while (st.wet < 6) {
            int sign = st.act(choke);
            if (sign == 4 || st.runs) return -1;
            turns++;
        }
        return turns;
    }

    // ---- mornings

    int morning(int age, int cold, int turns) {
        if (out(age, 0, 40) || out(cold, 0, 9) || out(turns, 0, 30)) return -2;
        if (mornings.size() == 16) return -4;
        mornings.add(new int[] {age, cold, turns});
        return mornings.size();
    }

    int says(int a, int b, int c, int age, int cold) {
        if (out(a, 0, 9) || out(b, 0, 9) || out(c, 0, 3) || out(age, 0, 40) || out(cold, 0, 9)) return -2;
        return a + (b * age) / 10 + c * cold;
    }

    int misses(int a, int b, int c) {
        if (out(a, 0, 9) || out(b, 0, 9) || out(c, 0, 3)) return -2;
        int off = 0;
        for (int[] m : mornings) off += Math.abs(m[2] - says(a, b, c, m[0], m[1]));
        return off;
    }

    int fits(int what) {
        if (out(what, 0, 3)) return -2;
        if (mornings.isEmpty()) return -3;
        int[] best = null;
        for (int abc = 0; abc < 400; abc++) {
            int[] law = {abc / 40, abc / 4 % 10, abc % 4, misses(abc / 40, abc / 4 % 10, abc % 4)};
            if (best == null || law[3] < best[3]) best = law;
        }
        return best[what];
    }

    // ---- sheets

    int sheet(int s, int form, int n) {
        if (out(s, 0, 3) || out(form, 0, 2) || n > 48) return -2;
        if (n < 0) return found(5);
        sheets[s] = new int[n];
        forms[s] = form;
        return n;
    }

    int lose(int s) {
        if (out(s, 0, 3)) return -2;
        if (sheets[s] == null) return found(1);
        int had = sheets[s].length;
        sheets[s] = null;
        return had;
    }

    int put(int s, int form, int i, int v) {
        if (out(s, 0, 3) || out(form, 0, 2)) return -2;
        if (sheets[s] == null) return found(1);
        if (forms[s] != form) return found(3);
        if (out(i, 0, sheets[s].length - 1)) return found(2);
        int drop = form == 0 ? 24 : form == 1 ? 16 : 0;
        sheets[s][i] = v << drop >> drop;
        return 1;
    }

    int get(int s, int form, int i) {
        if (out(s, 0, 3) || out(form, 0, 2)) return Integer.MIN_VALUE;
        int number = sheets[s] == null ? 1 : forms[s] != form ? 3 : out(i, 0, sheets[s].length - 1) ? 2 : 0;
        if (number == 0) return sheets[s][i];
        found(number);
        return Integer.MIN_VALUE;
    }

    int copy(int s, int i, int t, int j, int n) {
        if (out(s, 0, 3) || out(t, 0, 3)) return -2;
        if (sheets[s] == null || sheets[t] == null) return found(1);
        if (forms[s] != forms[t]) return found(4);
        if (i < 0 || j < 0 || n < 0) return found(2);
        if ((long) i + n > sheets[s].length || (long) j + n > sheets[t].length) return found(2);
        int[] as = Arrays.copyOfRange(sheets[s], i, i + n);
        for (int k = 0; k < n; k++) sheets[t][j + k] = as[k];
        return 1;
    }

    int write(int set, int s) {
        if (out(set, 0, 31) || out(s, 0, 3)) return -2;
        if (sheets[s] == null) return found(1);
        St st = new St(set);
        int many = 0;
        for (int[] one : seen) {
            int sign = st.act(one[0]);
            if (many < sheets[s].length) sheets[s][many++] = sign;
        }
        return many;
    }

    int count(int what) {
        int together = 0;
        if (what == 5) for (int v : ahead) together += v;
        if (what == 7) for (int[] m : mornings) together += m[2];
        switch (what) {
            case 0:
            case 1: return texts[what].length();
            case 2: return seen.size();
            case 3: return left();
            case 4: return mornings.size();
            case 5:
            case 7: return together;
            case 6: return acts().size();
            case 8: return finding;
            default: return -2;
        }
    }

    long digest() {
        List<Long> all = new ArrayList<>();
        for (int w = 0; w <= 7; w++) all.add((long) count(w));
        for (int t = 0; t <= 1; t++) all.add((long) fault(t));
        for (int w = 0; w <= 6; w++) all.add((long) motor(w));
        for (int t = 0; t <= 4; t++) for (int w = 0; w <= 1; w++) all.add(trouble(t, w));
        for (int a = 0; a <= 9; a++) for (int w = 0; w <= 1; w++) all.add(chance(a, 2, w));
        for (int a = 0; a <= 9; a++) all.add((long) parts(a));
        for (int w = 0; w <= 2; w++) all.add(best(2, w));
        for (int h = 0; h <= 1; h++) for (int w = 0; w <= 1; w++) all.add(habit(h, w));
        all.add((long) has(-1));
        all.add(work(2));
        for (int set : new int[] {0, 3, 31}) for (int w = 0; w <= 7; w++) all.add((long) state(set, w));
        all.add((long) drowned(0, 3));
        for (int w = 0; w <= 3; w++) all.add((long) fits(w));
        BigInteger h = BigInteger.valueOf(17);
        for (long one : all) h = h.multiply(BigInteger.valueOf(31)).add(BigInteger.valueOf(one));
        return h.longValue();
    }
}
