/** Long runs of calls, drawn by a fixed row of numbers, against Model. */
public final class RandomRunsTest {
    private static final int RUNS = 2500, CALLS = 400;
    private static final Check CHECK = new Check();
    private static long seed;

    private static int draw(int many) {
        seed = seed * 6364136223846793005L + 1442695040888963407L;
        return (int) ((seed >>> 33) % many);
    }

    /** A number between two others, now and then one at or behind an end. */
    private static int near(int low, int high) {
        switch (draw(14)) {
            case 0: return low;
            case 1: return high;
            case 2: return draw(5) == 0 ? low - 1 : low;
            case 3: return draw(5) == 0 ? high + 1 : high;
            case 4: return draw(40) == 0 ? Integer.MIN_VALUE : low;
            case 5: return draw(40) == 0 ? Integer.MAX_VALUE : high;
            default: return low + draw(high - low + 1);
        }
    }

    private static String text() {
        StringBuilder s = new StringBuilder();
        int start = draw(6), many = draw(7), step = draw(2) == 0 ? 1 : 5;
        for (int k = 0; k < many; k++) item(s, (start + k * step) % 6);
        if (draw(12) == 0) item(s, start);
        if (draw(6) == 0 && s.length() > 0) s.setCharAt(draw(s.length()), " ;0p9Z\u00ff".charAt(draw(7)));
        if (draw(9) == 0 && s.length() > 0) s.setLength(draw(s.length()));
        return s.toString();
    }

    private static void item(StringBuilder s, int item) {
        String gap = draw(3) == 0 ? "  " : " ";
        s.append(draw(4) == 0 ? " " : "").append(Model.ITEMS[item]).append(draw(3) == 0 ? "" : gap);
        String ahead = "";
        for (String part : Model.PARTS[item]) {
            int slot = Model.slot(part);
            boolean likely = draw(3) > 0;
            int v = likely ? likely(slot) : Model.LOW[slot] + draw(Model.HIGH[slot] - Model.LOW[slot] + 1);
            if (draw(60) == 0) v = draw(2) == 0 ? Model.HIGH[slot] + 1 : Math.max(0, Model.LOW[slot] - 1);
            s.append(ahead).append(draw(80) == 0 ? "0" : "").append(v);
            ahead = gap;
        }
        s.append(draw(3) == 0 ? " ;" : ";");
    }

    /** Numbers by which a good deal happens: water that comes, and a well that sinks. */
    private static int likely(int slot) {
        int[] low = {20, 5, 10, 0, 1, 0, 1, 0, 20, 0, 0};
        int[] high = {60, 30, 36, 60, 12, 30, 45, 8, 100, 99, 40};
        return low[slot] + draw(high[slot] - low[slot] + 1);
    }

    private static int type(YardPump x, Model m, String s) {
        int i = 0;
        while (i < s.length()) {
            int n = Math.min(1 + draw(8), s.length() - i);
            long v = draw(1000) - 500;
            for (int k = 0; k < n; k++) v = v << 8 | s.charAt(i + k);
            CHECK.due("type(" + v + ", " + n + ")", x.type(v, n), m.type(v, n));
            i += n;
        }
        return 0;
    }

    private static void tell(YardPump x, Model m) {
        if (draw(4) == 0) type(x, m, text());
        else {
            CHECK.due("clear()", x.clear(), m.clear());
            type(x, m, text());
        }
        CHECK.due("pump() of \"" + m.text + "\"", x.pump(), m.pump());
        for (int i = 0; i <= 11; i++) CHECK.due("told(" + i + ")", x.told(i), m.told(i));
    }

    private static void call(YardPump x, Model m) {
        int a, b, c;
        switch (draw(38)) {
            case 0: if (draw(3) == 0) tell(x, m); break;
            case 1: a = near(1, 8); CHECK.due("type", x.type(a, a), m.type(a, a)); break;
            case 2: CHECK.due("clear()", x.clear(), m.clear()); break;
            case 3: a = near(0, 10); CHECK.due("told", x.told(a), m.told(a)); break;
            case 4: case 5: case 6:
                a = draw(2) == 0 ? near(1, 200) : 1 + draw(9);
                CHECK.due("strokes(" + a + ")", x.strokes(a), m.strokes(a)); break;
            case 7: case 8: a = near(1, 99); CHECK.due("jug(" + a + ")", x.jug(a), m.jug(a)); break;
            case 9: case 10:
                a = draw(2) == 0 ? near(1, 48) : 1 + draw(3);
                CHECK.due("hours(" + a + ")", x.hours(a), m.hours(a)); break;
            case 11: if (draw(2) == 0) CHECK.due("anew()", x.anew(), m.anew()); break;
            case 12: case 13: CHECK.due("until()", x.until(), m.until()); break;
            case 14: a = near(1, 200); CHECK.due("least(" + a + ")", x.least(a), m.least(a)); break;
            case 15: a = near(1, 48); CHECK.due("night(" + a + ")", x.night(a), m.night(a)); break;
            case 16: sign(x, m); break;
            case 17: CHECK.due("unsign()", x.unsign(), m.unsign()); break;
            case 18: a = near(0, 5); b = near(0, 9); CHECK.due("chance", x.chance(a, b), m.chance(a, b)); break;
            case 19: case 20: a = near(0, 5); CHECK.due("fitting(" + a + ")", x.fitting(a), m.fitting(a)); break;
            case 21: a = near(0, 5); b = near(0, 1); CHECK.due("odds", x.odds(a, b), m.odds(a, b)); break;
            case 22: if (draw(5) == 0) CHECK.due("tells()", x.tells(), m.tells()); break;
            case 23: a = near(0, 200); b = near(0, 1); CHECK.due("where", x.where(a, b), m.where(a, b)); break;
            case 24: a = near(1, 200); b = near(1, 24); CHECK.due("day", x.day(a, b), m.day(a, b)); break;
            case 25:
                if (draw(25) > 0) break;
                a = near(1, 24); CHECK.due("pace(" + a + ")", x.pace(a), m.pace(a)); break;
            case 26:
                a = near(0, 9); b = near(0, 9); c = near(1, 24);
                int w = near(0, 1);
                CHECK.due("two", x.two(a, b, c, w), m.two(a, b, c, w)); break;
            case 27:
                if (draw(25) > 0) break;
                a = near(1, 24); b = near(0, 1); CHECK.due("rests(" + a + ")", x.rests(a, b), m.rests(a, b)); break;
            case 28: a = near(0, 4); b = near(0, 99); CHECK.due("cost", x.cost(a, b), m.cost(a, b)); break;
            case 29:
                a = draw(2) == 0 ? near(0, 9999) : draw(700);
                b = near(0, 1); CHECK.due("choice", x.choice(a, b), m.choice(a, b)); break;
            case 30: a = near(1, 200); b = near(0, 1); CHECK.due("sand", x.sand(a, b), m.sand(a, b)); break;
            case 31: a = near(0, 2); CHECK.due("line(" + a + ")", x.line(a), m.line(a)); break;
            case 32: a = near(0, 999); b = near(0, 999); CHECK.due("year", x.year(a, b), m.year(a, b)); break;
            case 33: a = near(0, 999); b = near(0, 3); CHECK.due("ahead", x.ahead(a, b), m.ahead(a, b)); break;
            case 34: a = near(0, 5); b = near(0, 5); CHECK.due("mark", x.mark(a, b), m.mark(a, b)); break;
            case 35: a = near(0, 1); CHECK.due("keep", x.keep(a), m.keep(a)); break;
            case 36: a = near(0, 1); CHECK.due("back", x.back(a), m.back(a)); break;
            default: a = near(0, 3); CHECK.due("count", x.count(a), m.count(a)); break;
        }
    }

    /** Half of the signs are such as some trouble would show. */
    private static void sign(YardPump x, Model m) {
        int what = near(0, 2);
        int n = what == 1 ? near(1, 24) : draw(12) == 0 ? 1 : 0;
        int seen = what == 0 ? near(0, 200) : what == 1 ? near(0, 999) : near(0, 1);
        if (what == 0 && draw(2) == 0) seen = Math.max(0, m.until());
        if (what == 1 && draw(2) == 0) seen = n * (draw(2) == 0 ? 10 * draw(10) : 3 * draw(10));
        CHECK.due("sign(" + what + ", " + n + ", " + seen + ")", x.sign(what, n, seen), m.sign(what, n, seen));
    }

    private static void look(YardPump x, Model m) {
        for (int i = 0; i <= 10; i++) CHECK.due("now(" + i + ")", x.now(i), m.now(i));
        CHECK.due("trace()", x.trace(), m.trace());
    }

    public static void main(String[] args) {
        for (int run = 0; run < RUNS && !CHECK.anyWrong(); run++) {
            seed = run * 1000003L + 17;
            CHECK.part("run " + run);
            YardPump x = new YardPump();
            Model m = new Model();
            if (draw(8) > 0) tell(x, m);
            // An object is good for 512 calls: the last step may take some 90.
            int start = CHECK.asked();
            for (int i = 0; CHECK.asked() - start < CALLS && !CHECK.anyWrong(); i++) {
                call(x, m);
                if (i % 5 == 4) look(x, m);
            }
        }
        CHECK.end("RandomRunsTest");
    }
}
