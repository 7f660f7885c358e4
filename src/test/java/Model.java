import java.math.BigInteger;
import java.util.ArrayList;
import java.util.HashMap;
import java.util.List;
import java.util.Map;

/** The document once more, word for word and slow, for RandomRunsTest to compare with: stroke by stroke, no short cuts. */
final class Model {
    static final String[] NAMES = {"FOOT", "STROKE", "WATER", "COMES", "BROAD", "FLAP", "AT", "AIR", "WET", "UP", "WARM"};
    static final int[] ELSE = {40, 10, 26, 20, 10, 0, 99, 0, 100, 0, 0};
    static final int[] LOW = {1, 1, 1, 0, 1, 0, 1, 0, 0, 0, 0};
    static final int[] HIGH = {99, 30, 99, 99, 99, 99, 99, 30, 100, 99, 40};
    static final String[] ITEMS = {"pump", "well", "flap", "joint", "leather", "place"};
    static final String[][] PARTS = {
        {"FOOT", "STROKE"}, {"WATER", "COMES", "BROAD"}, {"FLAP"}, {"AT", "AIR"}, {"WET"}, {"UP", "WARM"}};

    /** NOW. */
    static final class Now {
        int empty, wet, drawn, cups, strokes, hours, felt;

        Now copy() {
            Now n = new Now();
            n.empty = empty; n.wet = wet; n.drawn = drawn; n.cups = cups;
            n.strokes = strokes; n.hours = hours; n.felt = felt;
            return n;
        }
    }

    Map<String, Integer> told = untold();
    Now now = first(told);
    final Now[] images = new Now[2];
    StringBuilder text = new StringBuilder();
    final List<int[]> signs = new ArrayList<>();
    final List<int[]> sands = new ArrayList<>();
    final List<int[]> years = new ArrayList<>();
    final int[] chances = {1, 1, 1, 1, 1, 1};
    final int[] costs = {10, 10, 10, 10, 10};
    long trace;

    static Map<String, Integer> untold() {
        Map<String, Integer> m = new HashMap<>();
        for (int i = 0; i < 11; i++) m.put(NAMES[i], ELSE[i]);
        return m;
    }

    static int slot(String name) {
        for (int i = 0; i < 11; i++) if (NAMES[i].equals(name)) return i;
        throw new IllegalArgumentException(name);
    }

    static Now first(Map<String, Integer> t) {
        Now n = new Now();
        n.empty = depth(t, n);
        n.wet = t.get("WET");
        return n;
    }

    static Now full() {
        Now n = new Now();
        n.wet = 100;
        return n;
    }

    static int depth(Map<String, Integer> t, Now n) {
        return 10 * t.get("WATER") + n.drawn / t.get("BROAD");
    }

    static int lift(Map<String, Integer> t) {
        return 340 - t.get("UP") - t.get("WARM");
    }

    static boolean jointAbove(Map<String, Integer> t, Now n) {
        return 10 * t.get("AT") < depth(t, n);
    }

    static int gain(Map<String, Integer> t, Now n) {
        int g = t.get("STROKE") * n.wet / 100;
        if (jointAbove(t, n)) g -= t.get("AIR");
        if (g < 0) g = 0;
        if (depth(t, n) > 10 * t.get("FOOT")) g = 0;
        return g;
    }

    static int stroke(Map<String, Integer> t, Now n) {
        int d = depth(t, n), g = gain(t, n), was = n.empty;
        n.strokes++;
        n.felt = g > 0 ? (d - was) / 10 : 0;
        int would = was - g;
        if (d > lift(t)) {
            int floor = d - lift(t);
            if (was < floor) would = was;
            else if (would < floor) would = floor;
        }
        if (would >= 0) {
            n.empty = would;
            return 0;
        }
        n.empty = 0;
        n.cups += -would;
        n.drawn += -would;
        n.wet = 100;
        return -would;
    }

    static int strokes(Map<String, Integer> t, Now n, int many) {
        int came = 0;
        for (int i = 0; i < many; i++) came += stroke(t, n);
        return came;
    }

    static int jug(Now n, int cups) {
        int spilt = 0;
        for (int i = 0; i < cups; i++) {
            if (n.empty > 0) n.empty--;
            else spilt++;
        }
        n.wet += 5 * cups;
        if (n.wet > 100) n.wet = 100;
        return spilt;
    }

    static void hour(Map<String, Integer> t, Now n) {
        int was = depth(t, n);
        int more = t.get("FLAP") + (jointAbove(t, n) ? t.get("AIR") : 0);
        n.empty += more;
        if (n.empty > was) n.empty = was;
        if (n.empty > 0) n.wet -= 10;
        if (n.wet < 0) n.wet = 0;
        n.drawn -= t.get("COMES");
        if (n.drawn < 0) n.drawn = 0;
        if (n.empty > depth(t, n)) n.empty = depth(t, n);
        n.hours++;
    }

    static int untilOf(Map<String, Integer> t, Now from) {
        Now n = from.copy();
        for (int k = 1; k <= 200; k++) if (stroke(t, n) > 0) return k;
        return -9;
    }

    static boolean in(long v, long a, long b) {
        return v >= a && v <= b;
    }

    int type(long v, int n) {
        if (!in(n, 1, 8)) return -1;
        if (text.length() + n > 300) return -3;
        for (int i = n - 1; i >= 0; i--) text.append((char) ((v >>> (8 * i)) & 0xFF));
        return text.length();
    }

    int clear() {
        int had = text.length();
        text = new StringBuilder();
        return had;
    }

    /** The tokens with their places: a word, a number, a ; or what is none. */
    private List<Object[]> tokens() {
        List<Object[]> all = new ArrayList<>();
        String s = text.toString();
        int i = 0;
        while (i < s.length()) {
            int j = i;
            char c = s.charAt(i);
            if (c == ' ') { i++; continue; }
            if (c >= 'a' && c <= 'z') while (j < s.length() && s.charAt(j) >= 'a' && s.charAt(j) <= 'z') j++;
            else if (c >= '0' && c <= '9') while (j < s.length() && s.charAt(j) >= '0' && s.charAt(j) <= '9') j++;
            else j++;
            all.add(new Object[] {s.substring(i, j), i});
            i = j;
        }
        all.add(new Object[] {"", s.length()});
        return all;
    }

    private static int number(String token) {
        if (!token.matches("0|[1-9][0-9]*")) return -1;
        BigInteger b = new BigInteger(token);
        return b.compareTo(BigInteger.valueOf(100)) > 0 ? -1 : b.intValue();
    }

    int pump() {
        Map<String, Integer> t = untold();
        List<Object[]> all = tokens();
        List<String> had = new ArrayList<>();
        int i = 0;
        while (all.get(i)[0] != "") {
            String word = (String) all.get(i)[0];
            int item = -1;
            for (int k = 0; k < 6; k++) if (ITEMS[k].equals(word)) item = k;
            if (item < 0 || had.contains(word)) return -10 - (Integer) all.get(i)[1];
            had.add(word);
            i++;
            for (String name : PARTS[item]) {
                int v = number((String) all.get(i)[0]);
                if (v < LOW[slot(name)] || v > HIGH[slot(name)]) return -10 - (Integer) all.get(i)[1];
                t.put(name, v);
                i++;
            }
            if (!all.get(i)[0].equals(";")) return -10 - (Integer) all.get(i)[1];
            i++;
        }
        told = t;
        now = first(t);
        images[0] = null;
        images[1] = null;
        clear();
        return had.size();
    }

    int told(int what) {
        return in(what, 0, 10) ? told.get(NAMES[what]) : -1;
    }

    int strokes(int n) {
        return in(n, 1, 200) ? strokes(told, now, n) : -1;
    }

    int jug(int n) {
        return in(n, 1, 99) ? jug(now, n) : -1;
    }

    int hours(int n) {
        if (!in(n, 1, 48)) return -1;
        for (int i = 0; i < n; i++) hour(told, now);
        return now.empty;
    }

    int now(int what) {
        int[] all = {now.empty, now.wet, now.drawn, now.cups, now.strokes, now.hours, now.felt,
            depth(told, now), lift(told), gain(told, now)};
        return in(what, 0, 9) ? all[what] : -1;
    }

    int anew() {
        int had = now.cups;
        now = first(told);
        return had;
    }

    int until() {
        return untilOf(told, now);
    }

    int least(int k) {
        if (!in(k, 1, 200)) return -1;
        for (int n = 0; n <= 99; n++) {
            Now c = now.copy();
            jug(c, n);
            int u = untilOf(told, c);
            if (u != -9 && u <= k) return n;
        }
        return -9;
    }

    int night(int n) {
        if (!in(n, 1, 48)) return -1;
        Now c = now.copy();
        for (int i = 0; i < n; i++) hour(told, c);
        return c.empty;
    }

    int sign(int what, int n, int x) {
        boolean good = what == 0 && n == 0 && in(x, 0, 200)
            || what == 1 && in(n, 1, 24) && in(x, 0, 999)
            || what == 2 && n == 0 && in(x, 0, 1);
        if (!good) return -1;
        if (signs.size() == 6) return -3;
        signs.add(new int[] {what, n, x});
        return signs.size();
    }

    int unsign() {
        int had = signs.size();
        signs.clear();
        return had;
    }

    int chance(int t, int v) {
        if (!in(t, 0, 5) || !in(v, 0, 9)) return -1;
        int was = chances[t];
        chances[t] = v;
        return was;
    }

    private Map<String, Integer> with(int t, int v) {
        Map<String, Integer> m = new HashMap<>(told);
        if (t == 1) m.put("WET", m.get("WET") - 10 * v);
        if (t == 2) m.put("FLAP", m.get("FLAP") + 10 * v);
        if (t == 3) m.put("AIR", m.get("AIR") + 3 * v);
        if (t == 3 && m.get("AT") == 99) m.put("AT", 5);
        if (t == 4) m.put("WATER", m.get("WATER") + 2 * v);
        if (t == 5) m.put("FOOT", m.get("FOOT") - 4 * v);
        for (int i = 0; i < 11; i++) {
            if (m.get(NAMES[i]) < LOW[i]) m.put(NAMES[i], LOW[i]);
            if (m.get(NAMES[i]) > HIGH[i]) m.put(NAMES[i], HIGH[i]);
        }
        return m;
    }

    private static int seen(Map<String, Integer> t, int what, int n) {
        if (what == 0) return Math.max(0, untilOf(t, first(t)));
        Now f = full();
        if (what == 2) return t.get("AIR") > 0 && jointAbove(t, f) ? 1 : 0;
        for (int i = 0; i < n; i++) hour(t, f);
        return f.empty;
    }

    int fitting(int t) {
        if (!in(t, 0, 5)) return -1;
        int many = 0;
        for (int v = 1; v <= 9; v++) {
            boolean all = true;
            for (int[] s : signs) all &= seen(with(t, v), s[0], s[1]) == s[2];
            if (all) many++;
        }
        return many;
    }

    int odds(int t, int what) {
        if (!in(t, 0, 5) || !in(what, 0, 1)) return -1;
        int sum = 0;
        for (int i = 0; i < 6; i++) sum += chances[i] * fitting(i);
        if (sum == 0) return -2;
        int up = chances[t] * fitting(t);
        int g = BigInteger.valueOf(up).gcd(BigInteger.valueOf(sum)).intValue();
        return what == 0 ? up / g : sum / g;
    }

    int tells() {
        int best = 0, most = -1;
        for (int what = 0; what < 3; what++) {
            int[][] many = new int[1000][6];
            for (int t = 0; t < 6; t++)
                for (int v = 1; v <= 9; v++) many[seen(with(t, v), what, 12)][t]++;
            int sum = 0;
            for (int[] a : many) {
                int top = 0;
                for (int t = 0; t < 6; t++) top = Math.max(top, chances[t] * a[t]);
                sum += top;
            }
            if (sum > most) { most = sum; best = what; }
        }
        return best;
    }

    int where(int x, int what) {
        if (!in(x, 0, 200) || !in(what, 0, 1)) return -1;
        List<Integer> found = new ArrayList<>();
        for (int d = 1; d <= 99; d++) {
            Map<String, Integer> m = new HashMap<>(told);
            m.put("AT", d);
            if (seen(m, 0, 0) == x) found.add(d);
        }
        if (found.isEmpty()) return -9;
        return what == 0 ? found.get(0) : found.get(found.size() - 1);
    }

    int day(int p, int n) {
        if (!in(p, 1, 200) || !in(n, 1, 24)) return -1;
        Now f = full();
        for (int i = 0; i < n; i++) { strokes(told, f, p); hour(told, f); }
        return f.cups;
    }

    int pace(int n) {
        if (!in(n, 1, 24)) return -1;
        int most = 0;
        for (int p = 1; p <= 200; p++) most = Math.max(most, day(p, n));
        for (int p = 1; p <= 200; p++) if (day(p, n) == most) return p;
        return -1;
    }

    int two(int p, int q, int n, int what) {
        if (!in(p, 0, 9) || !in(q, 0, 9) || !in(n, 1, 24) || !in(what, 0, 1)) return -1;
        Now f = full();
        int[] cups = new int[2];
        for (int i = 0; i < n; i++) {
            cups[0] += strokes(told, f, 10 * p);
            cups[1] += strokes(told, f, 10 * q);
            hour(told, f);
        }
        return cups[what];
    }

    int rests(int n, int what) {
        if (!in(n, 1, 24) || !in(what, 0, 1)) return -1;
        int[][][] c = new int[10][10][2];
        for (int p = 0; p < 10; p++)
            for (int q = 0; q < 10; q++)
                for (int w = 0; w < 2; w++) c[p][q][w] = two(p, q, n, w);
        List<Integer> found = new ArrayList<>();
        for (int p = 0; p < 10; p++)
            for (int q = 0; q < 10; q++) {
                boolean rest = true;
                for (int o = 0; o < 10; o++) rest &= c[o][q][0] <= c[p][q][0] && c[p][o][1] <= c[p][q][1];
                if (rest) found.add(10 * p + q);
            }
        if (what == 0) return found.size();
        return found.isEmpty() ? -9 : found.get(0);
    }

    int cost(int w, int v) {
        if (!in(w, 0, 4) || !in(v, 0, 99)) return -1;
        int was = costs[w];
        costs[w] = v;
        return was;
    }

    int choice(int m, int what) {
        if (!in(m, 0, 9999) || !in(what, 0, 1)) return -1;
        for (int coins = 0; coins <= 500; coins++)
            for (int set = 0; set < 32; set++) {
                int sum = 0;
                Map<String, Integer> t = new HashMap<>(told);
                for (int w = 0; w < 5; w++) if ((set & 1 << w) != 0) sum += costs[w];
                if (sum != coins) continue;
                if ((set & 1) != 0) t.put("WET", 100);
                if ((set & 2) != 0) t.put("FLAP", 0);
                if ((set & 4) != 0) t.put("AIR", 0);
                if ((set & 8) != 0) t.put("FOOT", Math.min(99, t.get("FOOT") + 20));
                if ((set & 16) != 0) t.put("COMES", Math.min(99, t.get("COMES") * 2));
                Now n = first(t);
                jug(n, 20);
                if (strokes(t, n, 60) >= m) return what == 0 ? set : coins;
            }
        return -9;
    }

    int sand(int pace, int is) {
        if (!in(pace, 1, 200) || !in(is, 0, 1)) return -1;
        if (sands.size() == 30) return -3;
        sands.add(new int[] {pace, is});
        return sands.size();
    }

    int line(int what) {
        int without = 0, with = 1000;
        for (int[] s : sands) {
            if (s[1] == 0) without = Math.max(without, s[0]);
            else with = Math.min(with, s[0]);
        }
        if (what == 0) return without;
        if (what == 1) return with == 1000 ? -9 : with;
        if (what == 2) return without == 0 || with == 1000 || without < with ? 1 : 0;
        return -1;
    }

    int year(int spring, int summer) {
        if (!in(spring, 0, 999) || !in(summer, 0, 999)) return -1;
        if (years.size() == 20) return -3;
        years.add(new int[] {spring, summer});
        return years.size();
    }

    private static BigInteger[] frac(BigInteger a, BigInteger b) {
        if (b.signum() < 0) { a = a.negate(); b = b.negate(); }
        BigInteger g = a.gcd(b);
        return new BigInteger[] {a.divide(g), b.divide(g)};
    }

    private static BigInteger[] plus(BigInteger[] x, BigInteger[] y) {
        return frac(x[0].multiply(y[1]).add(y[0].multiply(x[1])), x[1].multiply(y[1]));
    }

    private static BigInteger[] times(BigInteger[] x, BigInteger[] y) {
        return frac(x[0].multiply(y[0]), x[1].multiply(y[1]));
    }

    private static BigInteger[] whole(long v) {
        return new BigInteger[] {BigInteger.valueOf(v), BigInteger.ONE};
    }

    /** The slope by sums over what lies off the means, not by the sums of all. */
    long ahead(int spring, int what) {
        if (!in(spring, 0, 999) || !in(what, 0, 3) || years.isEmpty()) return -1000000000000000000L;
        long sx = 0, sy = 0;
        for (int[] y : years) { sx += y[0]; sy += y[1]; }
        BigInteger n = BigInteger.valueOf(years.size());
        BigInteger[] mx = frac(BigInteger.valueOf(-sx), n), my = frac(BigInteger.valueOf(-sy), n);
        BigInteger[] up = whole(0), low = whole(0);
        for (int[] y : years) {
            BigInteger[] dx = plus(whole(y[0]), mx), dy = plus(whole(y[1]), my);
            up = plus(up, times(dx, dy));
            low = plus(low, times(dx, dx));
        }
        if (low[0].signum() == 0) return -1000000000000000000L;
        BigInteger[] slope = times(up, frac(low[1], low[0]));
        BigInteger[] told = plus(times(whole(-1), my), times(slope, plus(whole(spring), mx)));
        return (what < 2 ? slope : told)[what % 2].longValueExact();
    }

    int mark(int kind, int t) {
        if (!in(kind, 0, 5) || !in(t, 0, 5)) return -1000000;
        return body(kind, t);
    }

    private int body(int kind, int t) {
        int[] up = {-1, 0, 0, 2, 1, 0};
        long[] adds = {1, 10, 100, 1000, 10000, 100000};
        trace += adds[kind];
        if (kind == 0) return chances[t];
        int above = body(up[kind], t);
        if (kind == 1) return above + now.wet;
        if (kind == 2) return above - now.empty;
        if (kind == 3) return above * 2;
        if (kind == 4) return above + t;
        return above + depth(told, now);
    }

    int keep(int image) {
        if (!in(image, 0, 1)) return -1;
        images[image] = now.copy();
        return now.empty;
    }

    int back(int image) {
        if (!in(image, 0, 1)) return -1;
        if (images[image] == null) return -2;
        now = images[image].copy();
        return now.empty;
    }

    int count(int what) {
        if (what == 0) return signs.size();
        if (what == 1) return sands.size();
        if (what == 2) return years.size();
        return what == 3 ? text.length() : -1;
    }

    long trace() {
        return trace;
    }
}
