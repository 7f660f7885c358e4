/** Promises 2 to 34: each number of each call at its ends, beside them and far off; the longs of type(). */
public final class CallBoundsTest {
    private static final Check CHECK = new Check();

    public static void main(String[] args) {
        for (Calls.Row row : Calls.ALL) {
            CHECK.part(row.name + ": what its numbers may be");
            for (int place = 0; place < row.numbers.length; place++) beyond(row, place);
            for (int place = 0; place < row.numbers.length; place++) within(row, place);
            allBeyond(row);
            bothEnds(row);
        }
        whichSign();
        longsOfType();
        lowestBytesOfType();
        CHECK.end("CallBoundsTest");
    }

    /** A pump of which nothing is refused but what may not be. */
    private static YardPump ready() {
        YardPump x = Check.told("flap 5;leather 90;joint 3 2;");
        x.jug(99);
        x.strokes(30);
        x.keep(0);
        x.keep(1);
        x.year(10, 100);
        x.year(20, 150);
        return x;
    }

    private static void beyond(Calls.Row row, int place) {
        YardPump x = ready();
        for (int v : Calls.beyond(row.least[place], row.most[place])) {
            // 0, 1 and 2 tell sign() which sign it is: rows of their own say what its numbers may be.
            if (row.name.equals("sign") && place == 0 && v >= 0 && v <= 2) continue;
            int[] given = row.with(place, v);
            CHECK.due(row.told(given), row.call.on(x, given), row.refusal);
        }
    }

    private static boolean refused(Calls.Row row, long answer) {
        return answer == row.refusal || answer == YardPump.STATE && !row.name.equals("mark") || answer == YardPump.FULL;
    }

    private static void within(Calls.Row row, int place) {
        for (int v = row.least[place]; v <= row.most[place]; v++) {
            if (v > 1000 && v < row.most[place] - 3) continue;
            int[] given = row.with(place, v);
            CHECK.yes(row.told(given) + " is not refused", !refused(row, row.call.on(ready(), given)));
        }
    }

    private static void allBeyond(Calls.Row row) {
        YardPump x = ready();
        int[] below = new int[row.numbers.length];
        int[] above = new int[row.numbers.length];
        for (int i = 0; i < below.length; i++) {
            below[i] = row.least[i] - 1;
            above[i] = row.most[i] + 1;
        }
        if (!row.name.equals("sign")) {
            CHECK.due(row.told(below), row.call.on(x, below), row.refusal);
            CHECK.due(row.told(above), row.call.on(x, above), row.refusal);
        }
    }

    private static void bothEnds(Calls.Row row) {
        CHECK.yes(row.told(row.least) + " is not refused", !refused(row, row.call.on(ready(), row.least)));
        CHECK.yes(row.told(row.most) + " is not refused", !refused(row, row.call.on(ready(), row.most)));
    }

    private static void whichSign() {
        CHECK.part("promise 14: WATER (what = 0; n 0), BACK (1), HISS (2; n 0)");
        int[][] bad = {{-1, 0, 0}, {3, 0, 0}, {3, 1, 0}, {-1, 1, 0}, {0, 1, 0}, {0, 24, 0}, {0, -1, 0}, {1, 0, 0},
            {1, 25, 0}, {2, 1, 0}, {2, 24, 1}, {2, -1, 1}, {0, 0, 201}, {0, 0, 999}, {1, 1, 1000}, {2, 0, 2}, {2, 0, 200},
            {Integer.MIN_VALUE, 0, 0}, {Integer.MAX_VALUE, 0, 0}, {256, 0, 0}, {257, 1, 0}};
        YardPump x = new YardPump();
        for (int[] b : bad) {
            CHECK.due("sign(" + b[0] + ", " + b[1] + ", " + b[2] + ")", x.sign(b[0], b[1], b[2]), YardPump.BAD);
            CHECK.due("count(0)", x.count(0), 0);
        }
        int[][] good = {{0, 0, 0}, {0, 0, 200}, {1, 1, 0}, {1, 24, 999}, {2, 0, 0}, {2, 0, 1}};
        for (int i = 0; i < 6; i++) CHECK.due("sign number " + i, x.sign(good[i][0], good[i][1], good[i][2]), i + 1);
    }

    private static void longsOfType() {
        CHECK.part("promise 2: the largest and the smallest long");
        for (long v : new long[] {Long.MIN_VALUE, Long.MAX_VALUE, -1, 0, 1}) {
            for (int n = 1; n <= 8; n++) {
                YardPump x = new YardPump();
                CHECK.due("type(" + v + ", " + n + ")", x.type(v, n), n);
                CHECK.due("count(3)", x.count(3), n);
                CHECK.due("pump(): no byte of it begins a token", x.pump(), -10);
                CHECK.due("clear()", x.clear(), n);
            }
            YardPump x = new YardPump();
            CHECK.due("type(" + v + ", 0)", x.type(v, 0), YardPump.BAD);
            CHECK.due("type(" + v + ", 9)", x.type(v, 9), YardPump.BAD);
            CHECK.due("count(3)", x.count(3), 0);
        }
        YardPump x = new YardPump();
        x.type(0x2020202020202000L | 0x80, 8);
        CHECK.due("pump(): the fault is the eighth byte", x.pump(), -17);
        x.clear();
        x.type(0x8020202020202020L, 8);
        CHECK.due("pump(): the fault is the first byte", x.pump(), -10);
        x.clear();
        x.type(0x8020202020202020L, 7);
        CHECK.due("pump(): seven blanks", x.pump(), 0);
    }

    /** Each of the eight bytes in turn is the only one that is no blank. */
    private static void lowestBytesOfType() {
        CHECK.part("promise 2: the lowest n bytes, the highest of them first");
        for (int place = 0; place < 8; place++) {
            long v = 0x2020202020202020L ^ 1L << 8 * place;
            for (int n = 1; n <= 8; n++) {
                YardPump x = new YardPump();
                CHECK.due("type(" + v + ", " + n + ")", x.type(v, n), n);
                CHECK.due("pump()", x.pump(), place >= n ? 0 : -10 - (n - 1 - place));
            }
        }
        YardPump x = new YardPump();
        CHECK.due("type(flap 12;)", x.type(0x666c61702031323bL, 8), 8);
        CHECK.due("pump()", x.pump(), 1);
        CHECK.due("told(5)", x.told(5), 12);
    }
}
