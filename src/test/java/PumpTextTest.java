/** Promises 1 to 5: a new object, the text and what it tells; and the bytes of promise 34. */
public final class PumpTextTest {
    private static final Check CHECK = new Check();

    public static void main(String[] args) {
        newObject();
        typing();
        clearing();
        telling();
        untoldAgain();
        numbersAtTheirEnds();
        faults();
        faultChangesNothing();
        whatIsRead();
        CHECK.end("PumpTextTest");
    }

    private static void allTold(YardPump x, int... want) {
        for (int i = 0; i < want.length; i++) CHECK.due("told(" + i + ")", x.told(i), want[i]);
    }

    private static void pumped(String text, int want) {
        YardPump x = new YardPump();
        Check.write(x, text);
        CHECK.due("pump() of \"" + text + "\"", x.pump(), want);
    }

    private static void newObject() {
        CHECK.part("promise 1");
        YardPump x = new YardPump();
        allTold(x, 40, 10, 26, 20, 10, 0, 99, 0, 100, 0, 0);
        int[] now = {260, 100, 0, 0, 0, 0, 0, 260, 340, 10};
        for (int i = 0; i < now.length; i++) CHECK.due("now(" + i + ")", x.now(i), now[i]);
        for (int i = 0; i < 4; i++) CHECK.due("count(" + i + ")", x.count(i), 0);
        CHECK.due("trace()", x.trace(), 0);
        CHECK.due("back(0)", x.back(0), YardPump.STATE);
        CHECK.due("back(1)", x.back(1), YardPump.STATE);
        for (int t = 0; t < 6; t++) CHECK.due("chance(" + t + ", 1)", x.chance(t, 1), 1);
        for (int w = 0; w < 5; w++) CHECK.due("cost(" + w + ", 10)", x.cost(w, 10), 10);
        CHECK.due("unsign()", x.unsign(), 0);
        CHECK.due("line(0)", x.line(0), 0);
        CHECK.due("clear()", x.clear(), 0);
    }

    private static void typing() {
        CHECK.part("promise 2");
        YardPump x = new YardPump();
        for (int n : new int[] {0, 9, -1, Integer.MIN_VALUE, Integer.MAX_VALUE}) {
            CHECK.due("type(32, " + n + ")", x.type(32, n), YardPump.BAD);
        }
        CHECK.due("count(3)", x.count(3), 0);
        CHECK.due("type of f", x.type(0x7711223344556666L, 1), 1);
        CHECK.due("type of lap 9;xy", x.type(0x6c617020393b2020L, 8), 9);
        CHECK.due("pump() of flap 9;, its first byte not an f only", x.clear(), 9);
        CHECK.due("type: the highest byte first", x.type(0x666c61703132203bL, 8), 8);
        CHECK.due("pump()", x.pump(), 1);
        CHECK.due("told(5)", x.told(5), 12);
        CHECK.due("type: the lowest bytes alone", x.type(0x7777666c61703bL, 5), 5);
        CHECK.due("pump() of flap;", x.pump(), -14);
        x.clear();
        CHECK.due("type of a number below 0", x.type(-1, 2), 2);
        CHECK.due("pump()", x.pump(), -10);
        x.clear();
        for (int i = 0; i < 37; i++) CHECK.due("type", x.type(0x2020202020202020L, 8), 8 * i + 8);
        CHECK.due("type of 8 on 296", x.type(0x2020202020202020L, 8), YardPump.FULL);
        CHECK.due("type of 5 on 296", x.type(0, 5), YardPump.FULL);
        CHECK.due("type of 4 on 296", x.type(0x20202020L, 4), 300);
        CHECK.due("type of 1 on 300", x.type(32, 1), YardPump.FULL);
        CHECK.due("type, BAD ahead of FULL", x.type(32, 9), YardPump.BAD);
        CHECK.due("count(3)", x.count(3), 300);
        CHECK.due("pump() of 300 blanks", x.pump(), 0);
        CHECK.due("type behind it", x.type(32, 1), 1);
    }

    private static void clearing() {
        CHECK.part("promise 3");
        YardPump x = new YardPump();
        Check.write(x, "flap 9;");
        CHECK.due("clear()", x.clear(), 7);
        CHECK.due("clear() again", x.clear(), 0);
        CHECK.due("pump()", x.pump(), 0);
        CHECK.due("told(5)", x.told(5), 0);
        Check.write(x, "flap 8;");
        x.hours(3);
        CHECK.due("clear() leaves the rest: now(5)", x.clear() + x.now(5), 10);
    }

    private static void telling() {
        CHECK.part("promise 4, 5");
        YardPump x = new YardPump();
        Check.write(x, "pump 1 2;well 3 4 5;flap 6;joint 7 8;leather 9;place 10 11;");
        CHECK.due("pump()", x.pump(), 6);
        allTold(x, 1, 2, 3, 4, 5, 6, 7, 8, 9, 10, 11);
        CHECK.due("told(11)", x.told(11), YardPump.BAD);
        CHECK.due("told(-1)", x.told(-1), YardPump.BAD);
        CHECK.due("count(3)", x.count(3), 0);
        Check.write(x, "  place10 11 ;leather 9;joint7  8;   flap6;well3 4 5;pump 1 2 ;  ");
        CHECK.due("pump() backwards", x.pump(), 6);
        allTold(x, 1, 2, 3, 4, 5, 6, 7, 8, 9, 10, 11);
        CHECK.due("now(0)", x.now(0), 30);
        CHECK.due("now(1)", x.now(1), 9);
        CHECK.due("now(8)", x.now(8), 319);
    }

    private static void untoldAgain() {
        CHECK.part("promise 4, what is not told");
        YardPump x = Check.told("pump 1 2;well 3 4 5;flap 6;joint 7 8;leather 9;place 10 11;");
        Check.write(x, "flap 3;");
        CHECK.due("pump()", x.pump(), 1);
        allTold(x, 40, 10, 26, 20, 10, 3, 99, 0, 100, 0, 0);
        CHECK.due("pump() of no text", x.pump(), 0);
        allTold(x, 40, 10, 26, 20, 10, 0, 99, 0, 100, 0, 0);
    }

    private static void numbersAtTheirEnds() {
        CHECK.part("promise 4, numbers at their ends");
        YardPump low = Check.told("pump 1 1;well 1 0 1;flap 0;joint 1 0;leather 0;place 0 0;");
        allTold(low, 1, 1, 1, 0, 1, 0, 1, 0, 0, 0, 0);
        YardPump high = Check.told("pump 99 30;well 99 99 99;flap 99;joint 99 30;leather 100;place 99 40;");
        allTold(high, 99, 30, 99, 99, 99, 99, 99, 30, 100, 99, 40);
        String[] beyond = {"pump 0 1;", "pump 100 1;", "well 0 1 1;", "well 100 1 1;", "flap 100;",
            "joint 0 1;", "joint 100 1;", "leather 101;", "place 100 1;"};
        for (String text : beyond) pumped(text, -10 - text.indexOf(' ') - 1);
        pumped("pump 1 0;", -17);
        pumped("pump 1 31;", -17);
        pumped("well 1 100 1;", -17);
        pumped("well 1 1 0;", -19);
        pumped("well 1 1 100;", -19);
        pumped("joint 1 31;", -18);
        pumped("place 1 41;", -18);
    }

    private static void faults() {
        CHECK.part("promise 4, faults");
        pumped("", 0);
        pumped("   ", 0);
        pumped("pump", -14);
        pumped("pump  ", -16);
        pumped("pump 1 2", -18);
        pumped("pump 1 2 ", -19);
        pumped("pump 1;", -16);
        pumped("pump 1 2 3;", -19);
        pumped("pump 1 2;;", -19);
        pumped(";", -10);
        pumped(" ;", -11);
        pumped("7", -10);
        pumped("pumps 1 2;", -10);
        pumped("pum 1 2;", -10);
        pumped("bump 1 2;", -10);
        pumped("pump{ 1 2;", -14);
        pumped("pumpz 1 2;", -10);
        pumped("apump 1 2;", -10);
        pumped("pumpwell", -10);
        pumped("Pump 1 2;", -10);
        pumped("pumP 1 2;", -10);
        pumped("pump{1 2;", -14);
        pumped("pump`1 2;", -14);
        pumped("pump/1 2;", -14);
        pumped("pump:1 2;", -14);
        pumped("flap\t5;", -14);
        pumped("flap -5;", -15);
        pumped("flap 5,", -16);
        pumped("flap 5\u00ff;", -16);
        pumped("\u0000flap 5;", -10);
        pumped("flap 5; flap 5;", -18);
        pumped("flap 5; joint 5 5; flap", -29);
        pumped("flap 5 5;", -17);
        pumped("flap 5 flap", -17);
        pumped("flap flap", -15);
        pumped("flap 05;", -15);
        pumped("flap 00;", -15);
        pumped("flap 0;", 1);
        pumped("flap 101", -15);
        pumped("flap 4294967297;", -15);
        pumped("flap 18446744073709551617000000000000000000000000001;", -15);
        pumped("flap 5;101", -17);
        pumped("flap 5;5", -17);
        pumped("leather 100;", 1);
        pumped("leather 1000;", -18);
        pumped("flap5;joint1 2;place3 4", -33);
        pumped("flap5;joint12;", -23);
        pumped("pump 1 2;well 1 1 1;flap 1;joint 1 1;leather 1;place 1 1;pump", -67);
        pumped("pump 1 2;well 1 1 1;flap 1;joint 1 1;leather 1;place 1 1; ?", -68);
    }

    private static void faultChangesNothing() {
        CHECK.part("promise 4, a fault changes nothing");
        YardPump x = Check.told("flap 3;leather 50;");
        x.jug(99);
        x.strokes(2);
        x.keep(1);
        Check.write(x, "flap 9;pump 50 5;well");
        CHECK.due("pump()", x.pump(), -31);
        allTold(x, 40, 10, 26, 20, 10, 3, 99, 0, 50, 0, 0);
        CHECK.due("count(3)", x.count(3), 21);
        CHECK.due("now(0)", x.now(0), 141);
        CHECK.due("back(1)", x.back(1), 141);
        Check.write(x, "1 2 3;");
        CHECK.due("pump() of what is mended", x.pump(), 3);
        allTold(x, 50, 5, 1, 2, 3, 9, 99, 0, 100, 0, 0);
    }

    /** Read anew: now and the images are gone, all else stays. */
    private static void whatIsRead() {
        CHECK.part("promise 4, what stays");
        YardPump x = new YardPump();
        x.jug(99);
        x.strokes(20);
        x.hours(2);
        x.keep(0);
        x.keep(1);
        x.sign(2, 0, 1);
        x.chance(3, 7);
        x.cost(2, 77);
        x.sand(9, 1);
        x.year(5, 6);
        x.mark(0, 0);
        Check.write(x, "leather 30;");
        CHECK.due("pump()", x.pump(), 1);
        int[] now = {260, 30, 0, 0, 0, 0, 0, 260, 340, 3};
        for (int i = 0; i < now.length; i++) CHECK.due("now(" + i + ")", x.now(i), now[i]);
        CHECK.due("back(0)", x.back(0), YardPump.STATE);
        CHECK.due("back(1)", x.back(1), YardPump.STATE);
        CHECK.due("count(0)", x.count(0), 1);
        CHECK.due("chance(3, 7)", x.chance(3, 7), 7);
        CHECK.due("cost(2, 77)", x.cost(2, 77), 77);
        CHECK.due("line(1)", x.line(1), 9);
        CHECK.due("count(2)", x.count(2), 1);
        CHECK.due("trace()", x.trace(), 1);
    }
}
