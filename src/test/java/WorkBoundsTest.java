/** 'Terms', part 4: works, sand, years, kinds and images at their ends. A sentence of the document, a test. */
public final class WorkBoundsTest {
    private static final Check CHECK = new Check();
    private static final long NEVER = YardPump.NEVER;

    public static void main(String[] args) {
        costsAtTheirEnds();
        leastCosts();
        ofSeveralTheLeastSet();
        cupsAtLeast();
        choiceNone();
        choiceFromEmpty();
        foot();
        jugThenStrokes();
        thirtyPaces();
        lineNone();
        lineGreatestAndLeast();
        lineAgrees();
        twentyYears();
        aheadState();
        aheadEnds();
        aheadInLeastTerms();
        kinds();
        bodiesAsked();
        imagesTwo();
        imagesKeepNowAlone();
        readAnew();
        CHECK.end("WorkBoundsTest");
    }

    private static void chosen(YardPump x, int m, int set, int coins) {
        CHECK.due("choice(" + m + ", 0)", x.choice(m, 0), set);
        CHECK.due("choice(" + m + ", 1)", x.choice(m, 1), coins);
    }

    private static void costsAtTheirEnds() {
        CHECK.part("COSTS (0 .. 99; 10 at first)");
        YardPump x = new YardPump();
        for (int w = 0; w < 5; w++) {
            CHECK.due("cost(" + w + ", 99)", x.cost(w, 99), 10);
            CHECK.due("cost(" + w + ", 100)", x.cost(w, 100), YardPump.BAD);
            CHECK.due("cost(" + w + ", 0)", x.cost(w, 0), 99);
            CHECK.due("cost(" + w + ", -1)", x.cost(w, -1), YardPump.BAD);
            CHECK.due("cost(" + w + ", 50 + w)", x.cost(w, 50 + w), 0);
        }
        for (int w = 0; w < 5; w++) CHECK.due("cost(" + w + ", 0)", x.cost(w, 0), 50 + w);
    }

    /** The foot brings 84 cups, the joint then 64 more: by the joint alone the foot stays dry. */
    private static void leastCosts() {
        CHECK.part("CHOICE: the set of WORKS with the least COSTS, added");
        YardPump x = Check.told("joint 5 4;pump 20 10;");
        chosen(x, 120, 8, 10);
        chosen(x, 121, 12, 20);
        x.cost(2, 99);
        x.cost(3, 99);
        chosen(x, 120, 8, 99);
        chosen(x, 121, 12, 198);
        x.cost(2, 0);
        chosen(x, 120, 8, 99);
        chosen(x, 121, 12, 99);
        x.cost(3, 0);
        chosen(x, 120, 8, 0);
        chosen(x, 121, 12, 0);
    }

    private static void ofSeveralTheLeastSet() {
        CHECK.part("CHOICE: of several the least set");
        YardPump x = Check.told("joint 5 4;pump 20 10;");
        for (int w = 0; w < 5; w++) x.cost(w, 0);
        chosen(x, 0, 0, 0);
        chosen(x, 1, 8, 0);
        chosen(x, 121, 12, 0);
        x = Check.told("pump 27 10;well 26 0 1;joint 5 4;");
        chosen(x, 20, 4, 10);
        x.cost(3, 9);
        chosen(x, 20, 8, 9);
        x.cost(2, 9);
        chosen(x, 20, 4, 9);
        x.cost(2, 0);
        x.cost(3, 0);
        chosen(x, 20, 4, 0);
        chosen(x, 12, 0, 0);
    }

    private static void cupsAtLeast() {
        CHECK.part("CHOICE: bring m cups (0 .. 9999) at least");
        YardPump x = Check.told("pump 99 30;well 1 0 99;");
        chosen(x, 0, 0, 0);
        chosen(x, 1799, 0, 0);
        chosen(x, 1800, 0, 0);
        chosen(x, 1801, -9, -9);
        chosen(x, 9999, -9, -9);
        x = Check.told("pump 1 1;well 99 0 1;");
        chosen(x, 0, 0, 0);
        chosen(x, 1, -9, -9);
    }

    private static void choiceNone() {
        CHECK.part("CHOICE: NONE");
        chosen(Check.told("pump 99 30;well 35 0 1;"), 1, YardPump.NONE, YardPump.NONE);
        chosen(Check.told("pump 99 30;well 35 0 1;"), 0, 0, 0);
        YardPump x = Check.told("pump 99 30;well 35 0 1;");
        for (int w = 0; w < 5; w++) x.cost(w, 0);
        chosen(x, 1, YardPump.NONE, YardPump.NONE);
    }

    private static void choiceFromEmpty() {
        CHECK.part("CHOICE: from the pipe empty, nothing DRAWN");
        YardPump x = Check.told("pump 99 30;well 33 0 1;");
        chosen(x, 20, 0, 0);
        chosen(x, 21, -9, -9);
        Check.pourTo(x, 0);
        x.strokes(200);
        CHECK.due("now(2)", x.now(2), 30);
        chosen(x, 20, 0, 0);
        chosen(x, 21, -9, -9);
        CHECK.due("now(4)", x.now(4), 200);
        CHECK.due("now(2)", x.now(2), 30);
    }

    /** The jug leaves 20 T less of the pipe, and 60 strokes of 10 bring what is more than it holds. */
    private static void jugThenStrokes() {
        CHECK.part("CHOICE: a JUG of 20 cups, then 60 STROKES");
        chosen(Check.told("well 26 0 99;"), 360, 0, 0);
        chosen(Check.told("well 26 0 99;"), 361, -9, -9);
        chosen(Check.told("well 2 0 99;"), 600, 0, 0);
        chosen(Check.told("well 2 0 99;"), 601, -9, -9);
        chosen(Check.told("well 1 0 99;"), 600, 0, 0);
        chosen(Check.told("well 1 0 99;"), 601, -9, -9);
        chosen(Check.told("leather 0;well 26 0 99;"), 360, 0, 0);
        chosen(Check.told("pump 40 4;well 26 0 99;"), 1, -9, -9);
        chosen(Check.told("pump 40 4;well 25 0 99;"), 10, 0, 0);
        chosen(Check.told("pump 40 4;well 25 0 99;"), 11, -9, -9);
    }

    private static void foot() {
        CHECK.part("WORK foot (20 feet deeper, 99 at most)");
        chosen(Check.told("pump 6 10;"), 1, 8, 10);
        chosen(Check.told("pump 5 10;"), 1, -9, -9);
        chosen(Check.told("pump 14 10;well 34 0 99;"), 1, 8, 10);
        chosen(Check.told("pump 13 10;well 34 0 99;"), 1, -9, -9);
        chosen(Check.told("pump 79 10;well 34 0 99;"), 1, 0, 0);
        chosen(Check.told("pump 99 10;well 34 0 99;"), 1, 0, 0);
        CHECK.due("told(0)", Check.told("pump 6 10;").told(0), 6);
    }

    private static void lines(YardPump x, int clean, int sandy, int agree) {
        CHECK.due("line(0)", x.line(0), clean);
        CHECK.due("line(1)", x.line(1), sandy);
        CHECK.due("line(2)", x.line(2), agree);
    }

    private static void thirtyPaces() {
        CHECK.part("SAND: paces that were tried (30 at most)");
        YardPump x = new YardPump();
        for (int i = 1; i <= 28; i++) CHECK.due("sand number " + i, x.sand(50, i % 2), i);
        lines(x, 50, 50, 0);
        CHECK.due("sand number 29", x.sand(51, 0), 29);
        CHECK.due("sand number 30", x.sand(49, 1), 30);
        lines(x, 51, 49, 0);
        CHECK.due("sand number 31", x.sand(200, 0), YardPump.FULL);
        CHECK.due("sand number 31", x.sand(1, 1), YardPump.FULL);
        lines(x, 51, 49, 0);
        CHECK.due("count(1)", x.count(1), 30);
    }

    private static void lineNone() {
        CHECK.part("LINE: the greatest without sand (0: none), the least with it (NONE)");
        YardPump x = new YardPump();
        lines(x, 0, YardPump.NONE, 1);
        x.sand(1, 0);
        lines(x, 1, YardPump.NONE, 1);
        x = new YardPump();
        x.sand(200, 1);
        lines(x, 0, 200, 1);
    }

    private static void lineGreatestAndLeast() {
        CHECK.part("LINE: the greatest pace without sand, the least with it");
        YardPump x = new YardPump();
        int[][] rows = {{100, 0, 100, -9}, {99, 0, 100, -9}, {101, 0, 101, -9}, {150, 1, 101, 150}, {151, 1, 101, 150},
            {149, 1, 101, 149}, {1, 0, 101, 149}, {200, 1, 101, 149}, {200, 0, 200, 149}, {1, 1, 200, 1}};
        for (int[] r : rows) {
            x.sand(r[0], r[1]);
            CHECK.due("line(0)", x.line(0), r[2]);
            CHECK.due("line(1)", x.line(1), r[3]);
        }
    }

    private static void lineAgrees() {
        CHECK.part("LINE: whether they agree (the first below the second, or one is none)");
        int[][] rows = {{59, 60, 1}, {60, 60, 0}, {61, 60, 0}, {1, 200, 1}, {200, 1, 0}, {1, 1, 0}, {200, 200, 0}, {1, 2, 1}};
        for (int[] r : rows) {
            YardPump x = new YardPump();
            x.sand(r[0], 0);
            CHECK.due("line(2), one is none", x.line(2), 1);
            x.sand(r[1], 1);
            lines(x, r[0], r[1], r[2]);
            x = new YardPump();
            x.sand(r[1], 1);
            CHECK.due("line(2), one is none", x.line(2), 1);
        }
    }

    private static void looks(YardPump x, int spring, long... want) {
        for (int i = 0; i < 4; i++) CHECK.due("ahead(" + spring + ", " + i + ")", x.ahead(spring, i), want[i]);
    }

    /** 19 years on one line, and a twentieth that turns it. */
    private static void twentyYears() {
        CHECK.part("YEARS (20 at most)");
        YardPump x = new YardPump();
        for (int i = 1; i <= 19; i++) CHECK.due("year number " + i, x.year(i <= 10 ? 0 : 9, i <= 10 ? 0 : 9), i);
        looks(x, 5, 1, 1, 5, 1);
        CHECK.due("year number 20", x.year(9, 19), 20);
        looks(x, 0, 10, 9, 0, 1);
        looks(x, 9, 10, 9, 10, 1);
        CHECK.due("year number 21", x.year(999, 0), YardPump.FULL);
        looks(x, 9, 10, 9, 10, 1);
        CHECK.due("count(2)", x.count(2), 20);
    }

    private static void aheadState() {
        CHECK.part("AHEAD (STATE: all springs are alike, or none)");
        YardPump x = new YardPump();
        looks(x, 0, NEVER, NEVER, NEVER, NEVER);
        for (int i = 0; i < 19; i++) {
            x.year(999, 50 * i);
            looks(x, 999, NEVER, NEVER, NEVER, NEVER);
        }
        x.year(998, 450);
        looks(x, 998, 0, 1, 450, 1);
        x = new YardPump();
        x.year(0, 999);
        x.year(0, 0);
        looks(x, 0, NEVER, NEVER, NEVER, NEVER);
    }

    private static YardPump over(int... pairs) {
        YardPump x = new YardPump();
        for (int i = 0; i < pairs.length; i += 2) x.year(pairs[i], pairs[i + 1]);
        return x;
    }

    private static void aheadEnds() {
        CHECK.part("a spring's and a summer's depth (0 .. 999)");
        looks(over(0, 0, 999, 999), 0, 1, 1, 0, 1);
        looks(over(0, 0, 999, 999), 999, 1, 1, 999, 1);
        looks(over(0, 999, 999, 0), 0, -1, 1, 999, 1);
        looks(over(0, 999, 999, 0), 999, -1, 1, 0, 1);
        looks(over(0, 0, 1, 999), 999, 999, 1, 998001, 1);
        looks(over(0, 999, 1, 0), 999, -999, 1, -997002, 1);
        looks(over(998, 0, 999, 999), 0, 999, 1, -997002, 1);
        YardPump x = new YardPump();
        for (int i = 0; i < 10; i++) x.year(0, 999);
        for (int i = 0; i < 10; i++) x.year(999, 998);
        looks(x, 0, -1, 999, 999, 1);
        looks(x, 999, -1, 999, 998, 1);
        looks(x, 1, -1, 999, 998000, 999);
    }

    private static void aheadInLeastTerms() {
        CHECK.part("AHEAD: a fraction, in least terms, also below 0 and at 0");
        looks(over(0, 0, 4, 2), 2, 1, 2, 1, 1);
        looks(over(0, 0, 4, 2), 1, 1, 2, 1, 2);
        looks(over(0, 2, 4, 0), 5, -1, 2, -1, 2);
        looks(over(0, 2, 4, 0), 4, -1, 2, 0, 1);
        looks(over(0, 5, 4, 5), 999, 0, 1, 5, 1);
        looks(over(0, 0, 4, 0), 999, 0, 1, 0, 1);
        looks(over(1, 1, 2, 2, 4, 2), 3, 2, 7, 13, 7);
    }

    private static void kinds() {
        CHECK.part("MARK of a TROUBLE (0 .. 5) as if of a KIND");
        YardPump x = Check.told("leather 60;well 10 0 1;");
        x.chance(5, 9);
        x.chance(0, 0);
        int[] want = {9, 69, -91, -182, 74, 109};
        for (int kind = 0; kind < 6; kind++) CHECK.due("mark(" + kind + ", 5)", x.mark(kind, 5), want[kind]);
        want = new int[] {0, 60, -100, -200, 60, 100};
        for (int kind = 0; kind < 6; kind++) CHECK.due("mark(" + kind + ", 0)", x.mark(kind, 0), want[kind]);
        x = Check.told("well 99 0 1;leather 0;");
        want = new int[] {1, 1, -989, -1978, 4, 991};
        for (int kind = 0; kind < 6; kind++) CHECK.due("mark(" + kind + ", 3)", x.mark(kind, 3), want[kind]);
        Check.pourTo(x, 0);
        want = new int[] {1, 101, 1, 2, 104, 991};
        for (int kind = 0; kind < 6; kind++) CHECK.due("mark(" + kind + ", 3)", x.mark(kind, 3), want[kind]);
    }

    private static void bodiesAsked() {
        CHECK.part("THE TRACE (0 at first; of all calls ever, together); \"up\" is asked once");
        long[] adds = {1, 11, 101, 1101, 10011, 100001};
        YardPump x = new YardPump();
        long all = 0;
        CHECK.due("trace()", x.trace(), 0);
        for (int kind = 0; kind < 6; kind++) {
            for (int t = 0; t < 6; t++) {
                x.mark(kind, t);
                all += adds[kind];
                CHECK.due("trace()", x.trace(), all);
            }
        }
        x.mark(6, 0);
        x.mark(0, 6);
        x.mark(-1, -1);
        CHECK.due("trace(), refused", x.trace(), all);
        CHECK.due("trace() of another object", new YardPump().trace(), 0);
        x = new YardPump();
        for (int i = 0; i < 500; i++) x.mark(5, 0);
        CHECK.due("trace(), the most", x.trace(), 50000500L);
    }

    private static void nowIs(YardPump x, int... want) {
        for (int i = 0; i < want.length; i++) CHECK.due("now(" + i + ")", x.now(i), want[i]);
    }

    private static void imagesTwo() {
        CHECK.part("IMAGES 0, 1 keep NOW");
        YardPump x = Check.told("leather 50;flap 5;well 10 0 1;");
        CHECK.due("back(0), none was kept", x.back(0), YardPump.STATE);
        CHECK.due("back(1), none was kept", x.back(1), YardPump.STATE);
        CHECK.due("keep(1)", x.keep(1), 100);
        CHECK.due("back(0), the other was kept", x.back(0), YardPump.STATE);
        Check.pourTo(x, 0);
        x.strokes(2);
        x.hours(3);
        nowIs(x, 15, 70, 20, 20, 2, 3, 11);
        CHECK.due("keep(0)", x.keep(0), 15);
        CHECK.due("back(1)", x.back(1), 100);
        nowIs(x, 100, 50, 0, 0, 0, 0, 0);
        CHECK.due("back(0)", x.back(0), 15);
        nowIs(x, 15, 70, 20, 20, 2, 3, 11);
        x.strokes(5);
        CHECK.due("back(0), as it was kept", x.back(0), 15);
        nowIs(x, 15, 70, 20, 20, 2, 3, 11);
        x = Check.told("well 10 0 1;");
        x.keep(0);
        CHECK.due("back(1), the other was kept", x.back(1), YardPump.STATE);
        CHECK.due("keep(0), full", keptFull(x), 0);
    }

    private static int keptFull(YardPump x) {
        Check.pourTo(x, 0);
        return x.keep(0);
    }

    private static void imagesKeepNowAlone() {
        CHECK.part("IMAGES keep NOW; nothing else");
        YardPump x = new YardPump();
        x.keep(0);
        x.chance(2, 7);
        x.cost(3, 55);
        x.sign(2, 0, 1);
        x.sand(9, 1);
        x.year(1, 2);
        x.mark(1, 1);
        Check.write(x, "flap");
        x.back(0);
        CHECK.due("chance(2, 7)", x.chance(2, 7), 7);
        CHECK.due("cost(3, 55)", x.cost(3, 55), 55);
        for (int what = 0; what < 3; what++) CHECK.due("count(" + what + ")", x.count(what), 1);
        CHECK.due("count(3)", x.count(3), 4);
        CHECK.due("trace()", x.trace(), 11);
    }

    private static void readAnew() {
        CHECK.part("Read anew: NOW is as at first, IMAGES are gone; all else stays");
        YardPump x = new YardPump();
        x.strokes(40);
        x.hours(1);
        x.keep(0);
        x.keep(1);
        for (int i = 0; i < 6; i++) x.sign(0, 0, 27);
        for (int i = 0; i < 30; i++) x.sand(9, 1);
        for (int i = 0; i < 20; i++) x.year(i, i);
        for (int t = 0; t < 6; t++) x.chance(t, t + 3);
        for (int w = 0; w < 5; w++) x.cost(w, w + 3);
        x.mark(4, 0);
        CHECK.due("pump() of no text at all", x.pump(), 0);
        nowIs(x, 260, 100, 0, 0, 0, 0, 0);
        CHECK.due("back(0)", x.back(0), YardPump.STATE);
        CHECK.due("back(1)", x.back(1), YardPump.STATE);
        CHECK.due("sign", x.sign(0, 0, 27), YardPump.FULL);
        CHECK.due("sand", x.sand(9, 1), YardPump.FULL);
        CHECK.due("year", x.year(9, 1), YardPump.FULL);
        for (int t = 0; t < 6; t++) CHECK.due("chance(" + t + ", 0)", x.chance(t, 0), t + 3);
        for (int w = 0; w < 5; w++) CHECK.due("cost(" + w + ", 0)", x.cost(w, 0), w + 3);
        CHECK.due("fitting(2)", x.fitting(2), 9);
        CHECK.due("line(1)", x.line(1), 9);
        CHECK.due("ahead(7, 2)", x.ahead(7, 2), 7);
        CHECK.due("trace()", x.trace(), 10011);
    }
}
