import java.util.List;
import java.util.function.Supplier;
import java.util.function.ToLongFunction;

/** 'Refused, and nothing changes, the first of these: BAD, STATE, FULL': two pumps alike, one of them refuses a call. */
public final class RefusedTest {
    private static final Check CHECK = new Check();

    public static void main(String[] args) {
        looksTellApart();
        bad("a new object", YardPump::new);
        bad("one in use", RefusedTest::inUse);
        bad("all is full", RefusedTest::full);
        bad("nothing to tell of", RefusedTest::bare);
        fullRefuses();
        badAheadOfFull();
        stateRefuses();
        badAheadOfState();
        faults();
        askingChangesNothing("a new object", YardPump::new);
        askingChangesNothing("one in use", RefusedTest::inUse);
        askingChangesNothing("all is full", RefusedTest::full);
        askingChangesNothing("nothing to tell of", RefusedTest::bare);
        CHECK.end("RefusedTest");
    }

    private static YardPump inUse() {
        YardPump x = Check.told("pump 38 9;well 24 7 3;flap 6;joint 9 2;leather 70;place 12 11;");
        x.jug(30);
        x.keep(1);
        x.strokes(40);
        x.hours(2);
        x.sign(2, 0, 1);
        x.sand(70, 1);
        x.sand(40, 0);
        x.year(12, 100);
        x.year(15, 160);
        x.year(19, 170);
        x.chance(3, 6);
        x.cost(2, 4);
        x.mark(3, 1);
        Check.writeFast(x, "well 9 8 7;flap 4;  leath");
        return x;
    }

    /** Nothing more has room; the text tells of all six. */
    private static YardPump full() {
        YardPump x = Check.told("pump 50 20;well 20 9 2;flap 9;");
        Check.pourTo(x, 0);
        x.strokes(5);
        x.keep(0);
        x.hours(3);
        x.keep(1);
        x.strokes(6);
        for (int i = 0; i < 3; i++) x.sign(1, 1, 9);
        for (int i = 0; i < 3; i++) x.sign(2, 0, 0);
        for (int i = 0; i < 30; i++) x.sand(100 + i % 3, i % 2);
        for (int i = 0; i < 20; i++) x.year(10 + i, 3 * i * i % 50);
        for (int t = 0; t < 6; t++) x.chance(t, 9 - t);
        for (int w = 0; w < 5; w++) x.cost(w, 20 + w);
        String text = "pump 33 12;well 12 13 14;flap 15;joint 16 17;leather 18;place 19 20;";
        Check.writeFast(x, " ".repeat(300 - text.length()) + text);
        return x;
    }

    /** No chance, springs alike, no image. */
    private static YardPump bare() {
        YardPump x = Check.told("leather 40;flap 3;");
        for (int t = 0; t < 6; t++) x.chance(t, 0);
        for (int i = 0; i < 5; i++) x.year(7, 30 * i);
        x.jug(50);
        x.strokes(9);
        Check.write(x, "flap 8;");
        return x;
    }

    /** The one pump as it is, the other behind a call: both look alike. */
    private static void alike(String name, Supplier<YardPump> maker, List<String> want, ToLongFunction<YardPump> call, long due) {
        YardPump x = maker.get();
        CHECK.due(name, call.applyAsLong(x), due);
        List<String> got = Look.at(x);
        for (int i = 0; i < want.size(); i++) {
            CHECK.yes("behind " + name + ": " + got.get(i) + ", without it " + want.get(i), got.get(i).equals(want.get(i)));
        }
    }

    /** A look is worth something only if it sees each thing that calls change. */
    private static void looksTellApart() {
        CHECK.part("a look sees what changes");
        List<ToLongFunction<YardPump>> changes = List.of(
            x -> x.type(32, 1), x -> x.clear(), x -> x.pump(), x -> x.strokes(1), x -> x.jug(1), x -> x.hours(1),
            x -> x.anew(), x -> x.sign(2, 0, 0), x -> x.unsign(), x -> x.chance(0, 5), x -> x.cost(4, 5),
            x -> x.sand(60, 0), x -> x.year(9, 9));
        List<String> before = Look.at(inUseToldRight());
        for (int i = 0; i < changes.size(); i++) {
            YardPump x = inUseToldRight();
            changes.get(i).applyAsLong(x);
            CHECK.yes("change number " + i + " is seen", !Look.at(x).equals(before));
        }
        YardPump x = inUseToldRight();
        x.keep(0);
        CHECK.yes("keep(0) is seen", !Look.at(x).equals(before));
        x = inUseToldRight();
        x.back(1);
        CHECK.yes("back(1) is seen", !Look.at(x).equals(before));
    }

    private static YardPump inUseToldRight() {
        YardPump x = inUse();
        Check.write(x, "er 3;");
        return x;
    }

    private static void bad(String state, Supplier<YardPump> maker) {
        CHECK.part("BAD changes nothing, " + state);
        List<String> want = Look.at(maker.get());
        for (Calls.Row row : Calls.ALL) {
            for (int place = 0; place < row.numbers.length; place++) {
                int[] wrong = {row.least[place] - 1, row.most[place] + 1, Integer.MIN_VALUE, Integer.MAX_VALUE};
                for (int v : wrong) {
                    if (row.name.equals("sign") && place == 0 && v >= 0 && v <= 2) continue;
                    int[] given = row.with(place, v);
                    alike(row.told(given), maker, want, x -> row.call.on(x, given), row.refusal);
                }
            }
        }
    }

    private static void refuses(String name, Supplier<YardPump> maker, ToLongFunction<YardPump> call, long due) {
        alike(name, maker, Look.at(maker.get()), call, due);
    }

    private static void fullRefuses() {
        CHECK.part("FULL changes nothing");
        for (int n = 1; n <= 8; n++) {
            int bytes = n;
            refuses("type(v, " + n + ")", RefusedTest::full, x -> x.type(0x3b3b3b3b3b3b3b3bL, bytes), YardPump.FULL);
        }
        refuses("sign(0, 0, 0)", RefusedTest::full, x -> x.sign(0, 0, 0), YardPump.FULL);
        refuses("sign(1, 24, 999)", RefusedTest::full, x -> x.sign(1, 24, 999), YardPump.FULL);
        refuses("sign(2, 0, 1)", RefusedTest::full, x -> x.sign(2, 0, 1), YardPump.FULL);
        refuses("sand(200, 0)", RefusedTest::full, x -> x.sand(200, 0), YardPump.FULL);
        refuses("sand(1, 1)", RefusedTest::full, x -> x.sand(1, 1), YardPump.FULL);
        refuses("year(0, 999)", RefusedTest::full, x -> x.year(0, 999), YardPump.FULL);
        refuses("year(999, 0)", RefusedTest::full, x -> x.year(999, 0), YardPump.FULL);
        Supplier<YardPump> almost = () -> {
            YardPump x = new YardPump();
            Check.writeFast(x, " ".repeat(293));
            return x;
        };
        refuses("type(v, 8) on 293", almost, x -> x.type(0x3b3b3b3b3b3b3b3bL, 8), YardPump.FULL);
    }

    private static void badAheadOfFull() {
        CHECK.part("BAD ahead of FULL");
        for (int n : new int[] {0, 9, -1, Integer.MIN_VALUE, Integer.MAX_VALUE}) {
            refuses("type(32, " + n + ")", RefusedTest::full, x -> x.type(32, n), YardPump.BAD);
        }
        int[][] signs = {{-1, 0, 0}, {3, 0, 0}, {0, 1, 0}, {0, 0, 201}, {1, 0, 0}, {1, 25, 0}, {1, 1, 1000}, {2, 1, 0}, {2, 0, 2}};
        for (int[] s : signs) refuses("sign", RefusedTest::full, x -> x.sign(s[0], s[1], s[2]), YardPump.BAD);
        int[][] paces = {{0, 0}, {201, 0}, {60, 2}, {60, -1}};
        for (int[] p : paces) refuses("sand", RefusedTest::full, x -> x.sand(p[0], p[1]), YardPump.BAD);
        int[][] years = {{-1, 0}, {1000, 0}, {0, -1}, {0, 1000}};
        for (int[] y : years) refuses("year", RefusedTest::full, x -> x.year(y[0], y[1]), YardPump.BAD);
    }

    private static void stateRefuses() {
        CHECK.part("STATE changes nothing");
        for (int t = 0; t < 6; t++) {
            int trouble = t;
            refuses("odds(" + t + ", 0)", RefusedTest::bare, x -> x.odds(trouble, 0), YardPump.STATE);
            refuses("odds(" + t + ", 1)", RefusedTest::bare, x -> x.odds(trouble, 1), YardPump.STATE);
        }
        refuses("back(0)", RefusedTest::bare, x -> x.back(0), YardPump.STATE);
        refuses("back(1)", RefusedTest::bare, x -> x.back(1), YardPump.STATE);
        refuses("back(0), the other is kept", RefusedTest::inUse, x -> x.back(0), YardPump.STATE);
        for (int what = 0; what < 4; what++) {
            int asked = what;
            refuses("ahead(7, " + what + ")", RefusedTest::bare, x -> x.ahead(7, asked), YardPump.NEVER);
            refuses("ahead(7, " + what + "), no year", YardPump::new, x -> x.ahead(7, asked), YardPump.NEVER);
        }
    }

    private static void badAheadOfState() {
        CHECK.part("BAD ahead of STATE");
        int[][] odds = {{-1, 0}, {6, 0}, {0, -1}, {0, 2}};
        for (int[] o : odds) refuses("odds", RefusedTest::bare, x -> x.odds(o[0], o[1]), YardPump.BAD);
        for (int image : new int[] {-1, 2, Integer.MIN_VALUE, Integer.MAX_VALUE}) {
            refuses("back(" + image + ")", RefusedTest::bare, x -> x.back(image), YardPump.BAD);
        }
        int[][] aheads = {{-1, 0}, {1000, 0}, {7, -1}, {7, 4}};
        for (int[] a : aheads) refuses("ahead", RefusedTest::bare, x -> x.ahead(a[0], a[1]), YardPump.NEVER);
    }

    /** A text with a fault in each of its items: all that was told, NOW, the images and the text stay. */
    private static void faults() {
        CHECK.part("promise 4: a FAULT changes nothing (THE TEXT, too, stays)");
        String right = "place 20 21;leather 22;joint 23 24;flap 25;well 26 27 28;pump 29 30;";
        for (int cut = 1; cut < right.length() - 1; cut++) {
            String text = right.substring(0, cut) + "?" + right.substring(cut);
            Supplier<YardPump> maker = () -> {
                YardPump x = inUse();
                x.clear();
                Check.writeFast(x, text);
                return x;
            };
            YardPump x = maker.get();
            int fault = x.pump();
            CHECK.yes("pump() of \"" + text + "\" has a fault", fault <= -10 && fault >= -10 - text.length());
            refuses("pump() of \"" + text + "\"", maker, y -> y.pump(), fault);
        }
        YardPump x = inUse();
        x.pump();
        Check.write(x, "er 3;");
        CHECK.due("pump(), mended", x.pump(), 3);
        CHECK.due("told(8)", x.told(8), 3);
    }

    private static void askingChangesNothing(String state, Supplier<YardPump> maker) {
        CHECK.part("asking changes nothing, " + state);
        List<String> want = Look.at(maker.get());
        YardPump x = maker.get();
        for (int i = 0; i <= 10; i++) x.told(i);
        for (int i = 0; i <= 9; i++) x.now(i);
        for (int i = 0; i <= 3; i++) x.count(i);
        x.until();
        x.least(1);
        x.least(200);
        x.night(1);
        x.night(48);
        for (int t = 0; t <= 5; t++) x.fitting(t);
        for (int t = 0; t <= 5; t++) x.odds(t, t % 2);
        x.tells();
        x.where(0, 0);
        x.where(200, 1);
        x.day(200, 24);
        x.pace(24);
        x.two(9, 9, 24, 1);
        x.rests(24, 1);
        x.choice(0, 0);
        x.choice(9999, 1);
        for (int i = 0; i <= 2; i++) x.line(i);
        for (int i = 0; i <= 3; i++) x.ahead(999, i);
        x.trace();
        List<String> got = Look.at(x);
        for (int i = 0; i < want.size(); i++) {
            CHECK.yes("behind all questions: " + got.get(i) + ", without them " + want.get(i), got.get(i).equals(want.get(i)));
        }
    }
}
