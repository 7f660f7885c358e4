/** 'Terms', part 2: strokes, jugs and hours at their ends. A sentence of the document, a test. */
public final class StrokeBoundsTest {
    private static final Check CHECK = new Check();

    public static void main(String[] args) {
        drawnAtFirst();
        depthRoundedDown();
        liftAtItsEnds();
        emptyAtFirst();
        gainRoundedDown();
        jointHigherThanWater();
        jointByTheWellThatSinks();
        gainNoLessThanNothing();
        noGainBelowTheFoot();
        footByTheWellThatSinks();
        noCupsAboveLift();
        noLessThanAboveLift();
        staysWhereLessAlready();
        liftByTheWellThatSinks();
        belowNothingComesOut();
        nothingComesAtNothing();
        armFeels();
        armFeelsAheadOfTheStroke();
        armFeelsNothingWithoutGain();
        jugNothingAtLeast();
        jugWetsAtMost();
        hourDepthAtMost();
        hourDepthAsItWas();
        hourAirIfHigher();
        hourDries();
        hourDriesIfEmptyIsAboveNothing();
        hourComes();
        hourEmptyIsDepthAtMost();
        mostThatAnObjectSees();
        CHECK.end("StrokeBoundsTest");
    }

    private static void nowIs(YardPump x, int... want) {
        for (int i = 0; i < want.length; i++) CHECK.due("now(" + i + ")", x.now(i), want[i]);
    }

    private static YardPump at(String text, int empty) {
        YardPump x = Check.told(text);
        Check.pourTo(x, empty);
        CHECK.due("now(0) of \"" + text + "\"", x.now(0), empty);
        return x;
    }

    private static void gains(String text, int want) {
        CHECK.due("now(9) of \"" + text + "\"", Check.told(text).now(9), want);
    }

    private static void drawnAtFirst() {
        CHECK.part("DRAWN: 0 at first");
        CHECK.due("now(2)", new YardPump().now(2), 0);
        YardPump x = at("well 1 0 1;", 0);
        x.strokes(2);
        CHECK.due("now(2)", x.now(2), 20);
        x.anew();
        CHECK.due("now(2) behind anew()", x.now(2), 0);
        Check.pourTo(x, 0);
        x.strokes(2);
        x.pump();
        CHECK.due("now(2) behind pump()", x.now(2), 0);
    }

    private static void depthRoundedDown() {
        CHECK.part("DEPTH: DRAWN / BROAD (that part rounded down)");
        for (int broad : new int[] {1, 2, 3, 10, 98, 99}) {
            YardPump x = at("pump 99 1;well 1 0 " + broad + ";", 0);
            CHECK.due("now(7)", x.now(7), 10);
            for (int lower = 1; lower <= 3; lower++) {
                if (broad > 1) x.strokes(broad - 1);
                CHECK.due("now(7), a cup too few by " + broad, x.now(7), 10 + lower - 1);
                x.strokes(1);
                CHECK.due("now(7), just enough by " + broad, x.now(7), 10 + lower);
                CHECK.due("now(2)", x.now(2), lower * broad);
            }
        }
    }

    private static void liftAtItsEnds() {
        CHECK.part("LIFT: 340 less hundreds of feet less warmth");
        int[][] places = {{0, 0, 340}, {1, 0, 339}, {0, 1, 339}, {99, 0, 241}, {0, 40, 300}, {99, 40, 201}};
        for (int[] p : places) CHECK.due("now(8)", Check.told("place " + p[0] + " " + p[1] + ";").now(8), p[2]);
    }

    private static void emptyAtFirst() {
        CHECK.part("EMPTY: DEPTH at first");
        nowIs(new YardPump(), 260, 100, 0, 0, 0, 0, 0, 260, 340, 10);
        nowIs(Check.told("well 1 0 1;"), 10, 100, 0, 0, 0, 0, 0, 10);
        nowIs(Check.told("well 99 99 99;"), 990, 100, 0, 0, 0, 0, 0, 990);
    }

    private static void gainRoundedDown() {
        CHECK.part("GAIN is STROKE times WET by 100, rounded down");
        gains("pump 40 1;leather 100;", 1);
        gains("pump 40 1;leather 99;", 0);
        gains("pump 40 2;leather 50;", 1);
        gains("pump 40 2;leather 49;", 0);
        gains("pump 40 3;leather 33;", 0);
        gains("pump 40 3;leather 34;", 1);
        gains("pump 40 30;leather 100;", 30);
        gains("pump 40 30;leather 99;", 29);
        gains("pump 40 30;leather 3;", 0);
        gains("pump 40 30;leather 4;", 1);
        gains("pump 40 30;leather 0;", 0);
        YardPump x = Check.told("pump 40 3;leather 33;");
        CHECK.due("strokes(200)", x.strokes(200), 0);
        nowIs(x, 260, 33, 0, 0, 200, 0, 0);
        x = Check.told("pump 40 3;leather 34;");
        x.strokes(200);
        nowIs(x, 60, 34, 0, 0, 200, 0, 19);
    }

    private static void jointHigherThanWater() {
        CHECK.part("less the JOINT's air, if that is higher than the water");
        gains("joint 25 3;", 7);
        gains("joint 26 3;", 10);
        gains("joint 27 3;", 10);
        gains("joint 99 3;", 10);
        gains("joint 1 3;", 7);
        gains("joint 1 3;well 1 0 1;", 10);
        gains("joint 1 3;well 2 0 1;", 7);
        gains("joint 98 3;well 99 0 1;pump 99 10;", 7);
        gains("joint 99 3;well 99 0 1;pump 99 10;", 10);
    }

    private static void jointByTheWellThatSinks() {
        CHECK.part("higher: 10 times its depth less than DEPTH");
        YardPump x = at("pump 40 1;joint 2 1;well 1 0 1;", 0);
        CHECK.due("strokes(10): DEPTH comes to 20", x.strokes(10), 10);
        nowIs(x, 0, 100, 10, 10, 10, 0, 1, 20, 340, 1);
        CHECK.due("strokes(1): it is under water yet", x.strokes(1), 1);
        nowIs(x, 0, 100, 11, 11, 11, 0, 2, 21, 340, 0);
        CHECK.due("strokes(1): DEPTH is 21", x.strokes(1), 0);
    }

    private static void gainNoLessThanNothing() {
        CHECK.part("GAIN: 0 at least");
        gains("pump 40 5;joint 1 4;", 1);
        gains("pump 40 5;joint 1 5;", 0);
        gains("pump 40 5;joint 1 6;", 0);
        gains("pump 40 1;joint 1 30;", 0);
        gains("pump 40 30;joint 1 30;", 0);
        gains("pump 40 30;joint 1 29;", 1);
        gains("joint 1 5;leather 49;", 0);
        gains("joint 1 5;leather 60;", 1);
        YardPump x = at("pump 40 1;joint 1 30;", 100);
        CHECK.due("strokes(9): the column stays", x.strokes(9), 0);
        nowIs(x, 100, 100, 0, 0, 9, 0, 0);
    }

    private static void noGainBelowTheFoot() {
        CHECK.part("GAIN: 0, too, if DEPTH is above 10 FOOT");
        gains("pump 26 10;", 10);
        gains("pump 25 10;", 0);
        gains("pump 27 10;", 10);
        gains("pump 1 10;", 0);
        gains("pump 1 10;well 1 0 1;", 10);
        gains("pump 1 10;well 2 0 1;", 0);
        gains("pump 99 10;well 99 0 1;", 10);
        gains("pump 98 10;well 99 0 1;", 0);
    }

    private static void footByTheWellThatSinks() {
        CHECK.part("GAIN: 0, too, if DEPTH is above 10 FOOT, the well drawn");
        YardPump x = at("pump 2 1;well 1 0 1;", 0);
        CHECK.due("strokes(200)", x.strokes(200), 11);
        nowIs(x, 0, 100, 11, 11, 200, 0, 0, 21, 340, 0);
    }

    private static void noCupsAboveLift() {
        CHECK.part("if DEPTH is above LIFT");
        CHECK.due("strokes(35): DEPTH is LIFT", Check.told("pump 99 10;well 34 0 99;").strokes(35), 10);
        CHECK.due("strokes(200): by hundreds of feet", Check.told("pump 99 10;well 34 0 99;place 1 0;").strokes(200), 0);
        CHECK.due("strokes(200): by warmth", Check.told("pump 99 10;well 34 0 99;place 0 1;").strokes(200), 0);
        CHECK.due("strokes(34): a foot less", Check.told("pump 99 10;well 33 0 99;place 0 10;").strokes(34), 10);
        CHECK.due("strokes(21): LIFT at least", Check.told("pump 99 10;well 20 0 99;place 99 40;").strokes(21), 10);
        CHECK.due("strokes(200): LIFT at least", Check.told("pump 99 10;well 21 0 99;place 99 40;").strokes(200), 0);
    }

    private static void noLessThanAboveLift() {
        CHECK.part("EMPTY: no less than what DEPTH is above LIFT");
        String deep = "pump 99 10;well 34 0 99;place 7 0;";
        int[][] rows = {{40, 30}, {18, 8}, {17, 7}, {16, 7}, {8, 7}};
        for (int[] row : rows) {
            YardPump x = at(deep, row[0]);
            CHECK.due("strokes(1) from " + row[0], x.strokes(1), 0);
            CHECK.due("now(0)", x.now(0), row[1]);
        }
        YardPump x = Check.told("pump 99 30;well 99 0 1;place 99 40;");
        CHECK.due("strokes(6)", x.strokes(6), 0);
        CHECK.due("now(0)", x.now(0), 810);
        CHECK.due("strokes(200)", x.strokes(200), 0);
        nowIs(x, 789, 100, 0, 0, 206, 0, 20, 990, 201, 30);
    }

    private static void staysWhereLessAlready() {
        CHECK.part("but where EMPTY is less than that already it stays");
        String deep = "pump 99 10;well 34 0 99;place 7 0;";
        for (int empty : new int[] {7, 6, 1, 0}) {
            YardPump x = at(deep, empty);
            CHECK.due("strokes(1) from " + empty, x.strokes(1), 0);
            CHECK.due("strokes(200) from " + empty, x.strokes(200), 0);
            nowIs(x, empty, 100, 0, 0, 201, 0, (340 - empty) / 10);
        }
    }

    private static void liftByTheWellThatSinks() {
        CHECK.part("if DEPTH is above LIFT, the well drawn");
        YardPump x = at("pump 99 1;well 33 0 1;", 0);
        CHECK.due("strokes(200): the eleventh leaves 341", x.strokes(200), 11);
        nowIs(x, 0, 100, 11, 11, 200, 0, 34, 341, 340, 1);
    }

    private static void belowNothingComesOut() {
        CHECK.part("What it would be below 0 comes out as cups, is DRAWN too, and WET is 100");
        YardPump x = at("leather 10;well 1 0 99;", 9);
        nowIs(x, 9, 15);
        CHECK.due("strokes(8): GAIN 1", x.strokes(8), 0);
        nowIs(x, 1, 15, 0, 0, 8, 0, 0);
        CHECK.due("strokes(1): to nothing", x.strokes(1), 0);
        nowIs(x, 0, 15, 0, 0, 9, 0, 0);
        CHECK.due("strokes(1): the first cup", x.strokes(1), 1);
        nowIs(x, 0, 100, 1, 1, 10, 0, 1, 10, 340, 10);
        CHECK.due("strokes(1)", x.strokes(1), 10);
        x = at("pump 99 30;well 1 0 99;", 0);
        CHECK.due("strokes(1): the most", x.strokes(1), 30);
        x = at("pump 99 30;well 10 0 99;", 29);
        CHECK.due("strokes(1): all but a cup lifts", x.strokes(1), 1);
        x = at("pump 99 30;well 10 0 99;", 1);
        CHECK.due("strokes(1): a cup lifts", x.strokes(1), 29);
    }

    private static void nothingComesAtNothing() {
        CHECK.part("What it would be below 0: not what it is at 0");
        YardPump x = at("leather 50;well 1 0 99;pump 99 2;", 9);
        nowIs(x, 9, 55, 0, 0, 0, 0, 0, 10, 340, 1);
        CHECK.due("strokes(9)", x.strokes(9), 0);
        nowIs(x, 0, 55, 0, 0, 9, 0, 0, 10, 340, 1);
        x = at("pump 99 30;well 10 0 99;", 30);
        CHECK.due("strokes(1)", x.strokes(1), 0);
        nowIs(x, 0, 100, 0, 0, 1);
    }

    private static void armFeels() {
        CHECK.part("The arm FEELS: DEPTH less EMPTY, by 10, rounded down");
        int[][] rows = {{100, 0}, {99, 0}, {91, 0}, {90, 1}, {81, 1}, {80, 2}, {1, 9}, {0, 10}};
        for (int[] row : rows) {
            YardPump x = at("pump 99 5;well 10 0 99;", row[0]);
            x.strokes(1);
            CHECK.due("now(6) from " + row[0], x.now(6), row[1]);
        }
        YardPump x = at("pump 99 5;well 99 0 99;", 0);
        x.strokes(1);
        CHECK.due("now(6): the most", x.now(6), 99);
    }

    private static void armFeelsAheadOfTheStroke() {
        CHECK.part("The arm FEELS (ahead of the STROKE)");
        YardPump x = at("pump 99 30;well 2 0 1;", 0);
        x.strokes(1);
        nowIs(x, 0, 100, 30, 30, 1, 0, 2, 50);
        x.strokes(1);
        nowIs(x, 0, 100, 60, 60, 2, 0, 5, 80);
        x = at("pump 99 30;well 10 0 1;", 60);
        x.strokes(1);
        nowIs(x, 30, 100, 0, 0, 1, 0, 4);
    }

    private static void armFeelsNothingWithoutGain() {
        CHECK.part("The arm FEELS, if GAIN is above 0; else 0");
        YardPump x = at("pump 10 1;well 10 0 1;", 0);
        x.strokes(1);
        nowIs(x, 0, 100, 1, 1, 1, 0, 10, 101, 340, 0);
        x.strokes(1);
        nowIs(x, 0, 100, 1, 1, 2, 0, 0);
        CHECK.due("now(6): never a stroke", new YardPump().now(6), 0);
        x = at("joint 1 10;", 0);
        x.strokes(1);
        CHECK.due("now(6): air is all the gain", x.now(6), 0);
        x = at("joint 1 9;", 50);
        x.strokes(1);
        CHECK.due("now(6): a gain of 1", x.now(6), 21);
    }

    private static void jugNothingAtLeast() {
        CHECK.part("A JUG: EMPTY is less by n, 0 at least; what is more is spilt");
        int[][] rows = {{99, 98, 1, 0}, {99, 99, 0, 0}, {98, 99, 0, 1}, {2, 1, 1, 0}, {1, 1, 0, 0}, {0, 1, 0, 1},
            {1, 99, 0, 98}, {0, 99, 0, 99}, {100, 99, 1, 0}};
        for (int[] row : rows) {
            YardPump x = at("well 10 0 1;", row[0]);
            CHECK.due("jug(" + row[1] + ") on " + row[0], x.jug(row[1]), row[3]);
            nowIs(x, row[2], 100, 0, 0, 0, 0, 0, 100);
        }
    }

    private static void jugWetsAtMost() {
        CHECK.part("A JUG: WET is 5 n more, 100 at most");
        int[][] rows = {{0, 1, 5}, {94, 1, 99}, {95, 1, 100}, {96, 1, 100}, {100, 1, 100}, {0, 19, 95}, {0, 20, 100},
            {0, 21, 100}, {4, 19, 99}, {5, 19, 100}, {6, 19, 100}, {0, 99, 100}, {100, 99, 100}};
        for (int[] row : rows) {
            YardPump x = Check.told("leather " + row[0] + ";");
            CHECK.due("jug(" + row[1] + ")", x.jug(row[1]), 0);
            CHECK.due("now(1), WET " + row[0] + " and a jug of " + row[1], x.now(1), row[2]);
        }
        YardPump x = at("leather 0;flap 1;well 1 0 1;", 0);
        x.hours(6);
        nowIs(x, 6, 0);
        CHECK.due("jug(16): what is spilt wets, too", x.jug(16), 10);
        CHECK.due("now(1)", x.now(1), 80);
    }

    private static void hourDepthAtMost() {
        CHECK.part("An HOUR: EMPTY is more by FLAP, DEPTH at most");
        int[][] rows = {{0, 40, 40}, {59, 40, 99}, {60, 40, 100}, {61, 40, 100}, {100, 40, 100}, {0, 0, 0}, {1, 0, 1},
            {100, 0, 100}, {0, 99, 99}, {1, 99, 100}, {2, 99, 100}, {0, 1, 1}, {99, 1, 100}, {100, 1, 100}};
        for (int[] row : rows) {
            YardPump x = at("well 10 0 1;flap " + row[1] + ";", row[0]);
            CHECK.due("hours(1) from " + row[0] + ", flap " + row[1], x.hours(1), row[2]);
        }
    }

    private static void hourDepthAsItWas() {
        CHECK.part("An HOUR: DEPTH at most (DEPTH as it was)");
        YardPump x = at("pump 99 30;well 1 0 1;flap 20;", 0);
        x.strokes(1);
        CHECK.due("hours(1): no more than 40", x.hours(1), 20);
        CHECK.due("hours(1)", x.hours(1), 40);
        CHECK.due("hours(1)", x.hours(1), 40);
        x = at("pump 99 30;well 1 5 1;flap 38;", 0);
        x.strokes(1);
        CHECK.due("hours(1): 38, and DEPTH goes to 35", x.hours(1), 35);
        nowIs(x, 35, 90, 25, 30, 1, 1, 1, 35);
    }

    private static void hourAirIfHigher() {
        CHECK.part("An HOUR: by the JOINT's air, if that is higher than the water");
        int[][] rows = {{1, 5}, {9, 5}, {10, 0}, {11, 0}, {99, 0}};
        for (int[] row : rows) {
            YardPump x = at("well 10 0 1;joint " + row[0] + " 5;", 0);
            CHECK.due("hours(1), joint " + row[0], x.hours(1), row[1]);
        }
        YardPump x = at("well 10 0 1;joint 9 30;flap 99;", 0);
        CHECK.due("hours(1): both, DEPTH at most", x.hours(1), 100);
        x = at("pump 40 1;well 10 1 1;joint 10 5;", 0);
        x.strokes(1);
        CHECK.due("hours(1): DEPTH was 101", x.hours(1), 5);
        CHECK.due("hours(1): DEPTH was 100", x.hours(1), 5);
    }

    private static void hourDries() {
        CHECK.part("An HOUR: WET is 10 less, 0 at least");
        int[][] rows = {{100, 90}, {11, 1}, {10, 0}, {9, 0}, {1, 0}, {0, 0}};
        for (int[] row : rows) {
            YardPump x = Check.told("leather " + row[0] + ";");
            x.hours(1);
            CHECK.due("now(1), WET " + row[0], x.now(1), row[1]);
        }
        YardPump x = new YardPump();
        x.hours(10);
        CHECK.due("now(1) behind 10 hours", x.now(1), 0);
        x.hours(48);
        CHECK.due("now(1) behind 58 hours", x.now(1), 0);
    }

    private static void hourDriesIfEmptyIsAboveNothing() {
        CHECK.part("An HOUR: WET is 10 less, if EMPTY is above 0 then");
        YardPump x = at("well 10 0 1;", 0);
        x.hours(48);
        nowIs(x, 0, 100);
        x = at("well 10 0 1;", 1);
        x.hours(1);
        nowIs(x, 1, 90);
        x = at("well 10 0 1;flap 1;", 0);
        x.hours(1);
        nowIs(x, 1, 90);
        x = at("well 10 0 1;joint 9 1;", 0);
        x.hours(1);
        nowIs(x, 1, 90);
    }

    private static void hourComes() {
        CHECK.part("An HOUR: DRAWN is less by COMES, 0 at least");
        int[][] rows = {{0, 20}, {1, 19}, {19, 1}, {20, 0}, {21, 0}, {99, 0}};
        for (int[] row : rows) {
            YardPump x = at("pump 40 10;well 10 " + row[0] + " 5;", 0);
            x.strokes(2);
            x.hours(1);
            CHECK.due("now(2), COMES " + row[0], x.now(2), row[1]);
            CHECK.due("now(7)", x.now(7), 100 + row[1] / 5);
            CHECK.due("now(3): what came stays", x.now(3), 20);
        }
    }

    private static void hourEmptyIsDepthAtMost() {
        CHECK.part("An HOUR: EMPTY is DEPTH at most");
        YardPump x = at("pump 99 30;well 1 15 1;flap 99;", 0);
        x.strokes(1);
        CHECK.due("hours(1): 40 at most, then 25", x.hours(1), 25);
        CHECK.due("hours(1)", x.hours(1), 10);
        CHECK.due("hours(1)", x.hours(1), 10);
    }

    /** 510 calls of 200 strokes: the numbers of NOW hold them. */
    private static void mostThatAnObjectSees() {
        CHECK.part("NOW, the fullest");
        YardPump x = at("pump 99 30;well 1 99 99;", 0);
        for (int i = 0; i < 400; i++) x.strokes(200);
        CHECK.due("now(4)", x.now(4), 80000);
        nowIs(x, 0, 100, 32790, 32790, 80000, 0, 34, 341, 340, 30);
        for (int i = 0; i < 50; i++) x.hours(48);
        nowIs(x, 0, 100, 0, 32790, 80000, 2400, 34, 10, 340, 30);
    }
}
