/** 'Terms', part 3: UNTIL to RESTS at their ends. A sentence of the document, a test. */
public final class TroubleBoundsTest {
    private static final Check CHECK = new Check();

    public static void main(String[] args) {
        untilAtMost();
        untilNone();
        untilChangesNothing();
        leastAtItsEnds();
        leastKAtMost();
        nightAtItsEnds();
        sixSigns();
        signWater();
        signWaterFromEmpty();
        signBack();
        signBackFromFull();
        signHiss();
        hissHigherThanWater();
        troubleNone();
        troubleLeather();
        troubleFlap();
        troubleJoint();
        troubleJointPlace();
        troubleDeep();
        troubleSunk();
        allSigns();
        chancesAtTheirEnds();
        oddsState();
        oddsInLeastTerms();
        tellsMostAndFirst();
        tellsAddsUp();
        tellsByTwelveHours();
        whereEnds();
        whereNone();
        dayEnds();
        dayFromFull();
        strokesFirst();
        bestPaceLeast();
        twoEnds();
        restsTies();
        restsNone();
        CHECK.end("TroubleBoundsTest");
    }

    private static YardPump at(String text, int empty) {
        YardPump x = Check.told(text);
        Check.pourTo(x, empty);
        CHECK.due("now(0) of \"" + text + "\"", x.now(0), empty);
        return x;
    }

    private static void fits(YardPump x, int... want) {
        for (int t = 0; t < want.length; t++) CHECK.due("fitting(" + t + ")", x.fitting(t), want[t]);
    }

    private static YardPump seen(String text, int what, int n, int seen) {
        YardPump x = Check.told(text);
        CHECK.due("sign(" + what + ", " + n + ", " + seen + ") of \"" + text + "\"", x.sign(what, n, seen), 1);
        return x;
    }

    private static void untilAtMost() {
        CHECK.part("UNTIL: the fewest STROKES by which a cup comes (200 at most)");
        int[][] rows = {{200, -9}, {199, 200}, {198, 199}, {1, 2}, {0, 1}};
        for (int[] row : rows) {
            YardPump x = at("pump 99 1;well 20 0 99;", row[0]);
            CHECK.due("until() from " + row[0], x.until(), row[1]);
            CHECK.due("strokes, one less", row[1] > 1 ? x.strokes(row[1] - 1) : 0, 0);
            CHECK.due("strokes(1)", row[1] > 0 ? x.strokes(1) : 1, 1);
        }
        rows = new int[][] {{9, 1}, {10, 2}, {11, 2}, {19, 2}, {20, 3}};
        for (int[] row : rows) CHECK.due("until() from " + row[0], at("", row[0]).until(), row[1]);
    }

    private static void untilNone() {
        CHECK.part("UNTIL: NONE");
        int none = YardPump.NONE;
        CHECK.due("until(), STROKE times WET below 100", at("leather 0;flap 1;", 260).until(), none);
        CHECK.due("until(), DEPTH above 10 FOOT", at("pump 25 10;", 0).until(), none);
        CHECK.due("until(), DEPTH is 10 FOOT", at("pump 26 10;", 0).until(), 1);
        CHECK.due("until(), DEPTH above LIFT", at("pump 99 30;well 34 0 1;place 1 0;", 0).until(), none);
        CHECK.due("until(), DEPTH is LIFT", at("pump 99 30;well 34 0 1;", 0).until(), 1);
        CHECK.due("until(), air as much as the gain", at("joint 1 10;", 0).until(), none);
        CHECK.due("until(), air a T less", at("joint 1 9;", 0).until(), 1);
        CHECK.due("until(), the deepest", at("pump 99 30;well 99 0 1;", 0).until(), none);
    }

    private static void untilChangesNothing() {
        CHECK.part("UNTIL .. nothing is changed by asking");
        YardPump x = at("leather 50;flap 5;", 40);
        x.hours(1);
        x.strokes(1);
        int[] now = new int[10];
        for (int i = 0; i < 10; i++) now[i] = x.now(i);
        x.until();
        x.least(1);
        x.least(200);
        x.night(48);
        for (int i = 0; i < 10; i++) CHECK.due("now(" + i + ")", x.now(i), now[i]);
    }

    private static void leastAtItsEnds() {
        CHECK.part("LEAST: the least JUG (0 .. 99); NONE");
        int[][] rows = {{0, 0}, {1, 1}, {98, 98}, {99, 99}, {100, -9}, {200, -9}};
        for (int[] row : rows) CHECK.due("least(1) from " + row[0], at("pump 99 1;well 20 0 99;", row[0]).least(1), row[1]);
        CHECK.due("least(200), never water", at("pump 25 10;", 0).least(200), -9);
        CHECK.due("least(200), dry: a jug of 20 alone", Check.told("pump 40 1;leather 0;well 19 0 1;").least(200), 20);
        CHECK.due("least(171), the same", Check.told("pump 40 1;leather 0;well 19 0 1;").least(171), 20);
        CHECK.due("least(170), a cup more", Check.told("pump 40 1;leather 0;well 19 0 1;").least(170), 21);
    }

    private static void leastKAtMost() {
        CHECK.part("LEAST: UNTIL is k at most");
        YardPump x = at("pump 99 1;well 20 0 99;", 200);
        int[][] rows = {{200, 1}, {199, 2}, {103, 98}, {102, 99}, {101, -9}, {1, -9}};
        for (int[] row : rows) CHECK.due("least(" + row[0] + ")", x.least(row[0]), row[1]);
        Check.pourTo(x, 199);
        CHECK.due("least(200) where UNTIL is 200", x.least(200), 0);
        CHECK.due("least(199) where UNTIL is 200", x.least(199), 1);
    }

    private static void nightAtItsEnds() {
        CHECK.part("NIGHT of n HOURS (1 .. 48): EMPTY then");
        YardPump x = at("well 5 0 1;flap 1;", 0);
        int[][] rows = {{1, 1}, {2, 2}, {47, 47}, {48, 48}};
        for (int[] row : rows) CHECK.due("night(" + row[0] + ")", x.night(row[0]), row[1]);
        CHECK.due("now(0)", x.now(0), 0);
        CHECK.due("now(5)", x.now(5), 0);
        x.hours(48);
        CHECK.due("night(2)", x.night(2), 50);
        CHECK.due("night(3): DEPTH at most", x.night(3), 50);
        CHECK.due("night(48): DEPTH at most", x.night(48), 50);
    }

    /** Five signs that all would show, and a sixth that none would. */
    private static void sixSigns() {
        CHECK.part("SIGNS (6 at most)");
        YardPump x = new YardPump();
        for (int i = 1; i <= 5; i++) {
            CHECK.due("sign number " + i, x.sign(0, 0, 27), i);
            fits(x, 9, 0, 9, 0, 0, 3);
        }
        CHECK.due("sign number 6", x.sign(0, 0, 28), 6);
        fits(x, 0, 0, 0, 0, 0, 0);
        CHECK.due("unsign()", x.unsign(), 6);
        for (int i = 1; i <= 6; i++) CHECK.due("sign number " + i, x.sign(0, 0, 27), i);
        CHECK.due("sign number 7", x.sign(0, 0, 28), YardPump.FULL);
        fits(x, 9, 0, 9, 0, 0, 3);
        CHECK.due("count(0)", x.count(0), 6);
        CHECK.due("unsign()", x.unsign(), 6);
        fits(x, 9, 9, 9, 9, 9, 9);
    }

    private static void signWater() {
        CHECK.part("WATER: UNTIL was x (1 .. 200; 0: no water)");
        fits(seen("pump 99 30;well 1 0 1;", 0, 0, 1), 9, 6, 9, 9, 0, 9);
        fits(seen("pump 99 30;well 1 0 1;", 0, 0, 0), 0, 0, 0, 0, 0, 0);
        fits(seen("pump 99 1;well 19 0 1;", 0, 0, 191), 9, 0, 9, 0, 0, 9);
        fits(seen("pump 99 1;well 19 0 1;", 0, 0, 190), 0, 0, 0, 0, 0, 0);
        fits(seen("pump 99 1;well 19 0 1;", 0, 0, 0), 0, 9, 0, 9, 9, 0);
        fits(seen("pump 99 1;well 20 0 1;", 0, 0, 0), 9, 9, 9, 9, 9, 9);
        fits(seen("pump 99 1;well 20 0 1;", 0, 0, 200), 0, 0, 0, 0, 0, 0);
        fits(seen("pump 99 30;well 34 0 1;", 0, 0, 12), 9, 0, 9, 0, 0, 9);
        fits(seen("pump 99 30;well 35 0 1;", 0, 0, 0), 9, 9, 9, 9, 9, 9);
    }

    private static void signWaterFromEmpty() {
        CHECK.part("WATER: from an empty pipe, nothing DRAWN");
        YardPump x = seen("well 33 0 1;pump 99 10;", 0, 0, 34);
        fits(x, 9, 0, 9, 0, 0, 9);
        Check.pourTo(x, 0);
        x.strokes(200);
        CHECK.due("until(): the well is drawn", x.until(), YardPump.NONE);
        fits(x, 9, 0, 9, 0, 0, 9);
    }

    private static void signBack() {
        CHECK.part("BACK: behind n HOURS (1 .. 24), EMPTY was x (0 .. 999)");
        fits(seen("flap 1;well 99 0 1;", 1, 1, 1), 9, 9, 0, 0, 9, 9);
        fits(seen("flap 1;well 99 0 1;", 1, 24, 24), 9, 9, 0, 0, 9, 9);
        fits(seen("flap 1;well 99 0 1;", 1, 24, 23), 0, 0, 0, 0, 0, 0);
        fits(seen("flap 1;well 99 0 1;", 1, 23, 23), 9, 9, 0, 0, 9, 9);
        fits(seen("", 1, 1, 0), 9, 9, 0, 0, 9, 9);
        fits(seen("flap 99;well 99 0 1;", 1, 24, 990), 9, 9, 9, 9, 9, 9);
        fits(seen("flap 99;well 99 0 1;", 1, 24, 999), 0, 0, 0, 0, 0, 0);
        fits(seen("flap 99;well 99 0 1;", 1, 10, 990), 9, 9, 9, 9, 9, 9);
        fits(seen("flap 99;well 99 0 1;", 1, 9, 891), 9, 9, 9, 0, 9, 9);
        fits(seen("flap 99;well 1 0 1;", 1, 1, 10), 9, 9, 9, 9, 0, 9);
    }

    private static void signBackFromFull() {
        CHECK.part("BACK: from a full one, whatever is NOW");
        YardPump x = seen("flap 7;", 1, 1, 7);
        x.hours(20);
        fits(x, 9, 9, 0, 0, 9, 9);
        Check.pourTo(x, 0);
        x.strokes(200);
        fits(x, 9, 9, 0, 0, 9, 9);
    }

    private static void signHiss() {
        CHECK.part("HISS (x 1) or none (0)");
        fits(seen("joint 1 1;", 2, 0, 1), 9, 9, 9, 9, 9, 9);
        fits(seen("joint 1 1;", 2, 0, 0), 0, 0, 0, 0, 0, 0);
        fits(seen("joint 1 0;", 2, 0, 1), 0, 0, 0, 9, 0, 0);
        fits(seen("joint 1 0;", 2, 0, 0), 9, 9, 9, 0, 9, 9);
        fits(seen("joint 1 30;", 2, 0, 1), 9, 9, 9, 9, 9, 9);
    }

    private static void hissHigherThanWater() {
        CHECK.part("a HISS: air at the JOINT, which is higher than the water");
        fits(seen("joint 9 1;well 10 0 1;", 2, 0, 1), 9, 9, 9, 9, 9, 9);
        fits(seen("joint 10 1;well 10 0 1;", 2, 0, 1), 0, 0, 0, 0, 9, 0);
        fits(seen("joint 10 1;well 10 0 1;", 2, 0, 0), 9, 9, 9, 9, 0, 9);
        fits(seen("joint 12 1;well 10 0 1;", 2, 0, 1), 0, 0, 0, 0, 8, 0);
        fits(seen("joint 27 1;well 10 0 1;", 2, 0, 1), 0, 0, 0, 0, 1, 0);
        fits(seen("joint 28 1;well 10 0 1;", 2, 0, 1), 0, 0, 0, 0, 0, 0);
        fits(seen("joint 99 1;well 99 0 1;", 2, 0, 1), 0, 0, 0, 9, 0, 0);
        fits(seen("joint 98 1;well 99 0 1;", 2, 0, 1), 9, 9, 9, 9, 9, 9);
        fits(seen("joint 1 1;well 1 0 1;", 2, 0, 1), 0, 0, 0, 0, 9, 0);
    }

    private static void troubleNone() {
        CHECK.part("FITTING (of TROUBLE 0: 9, or 0)");
        YardPump x = new YardPump();
        CHECK.due("fitting(0), no SIGNS", x.fitting(0), 9);
        x.sign(0, 0, 27);
        CHECK.due("fitting(0), just so", x.fitting(0), 9);
        x.sign(2, 0, 1);
        CHECK.due("fitting(0), not all", x.fitting(0), 0);
    }

    private static void troubleLeather() {
        CHECK.part("LEATHER: WET 10 v less; NUMBERS beyond what they may be are 0");
        fits(seen("leather 100;", 0, 0, 29), 0, 1, 0, 0, 1, 0);
        fits(seen("leather 90;", 0, 0, 33), 0, 1, 0, 0, 0, 0);
        fits(seen("leather 100;well 15 0 1;", 0, 0, 151), 0, 1, 0, 1, 0, 0);
        fits(seen("leather 99;well 15 0 1;", 0, 0, 0), 0, 1, 0, 7, 0, 3);
        fits(seen("leather 19;well 15 0 1;", 0, 0, 0), 0, 9, 0, 9, 7, 3);
        fits(seen("leather 9;well 15 0 1;", 0, 0, 0), 9, 9, 9, 9, 9, 9);
        fits(seen("leather 0;", 0, 0, 0), 9, 9, 9, 9, 9, 9);
    }

    private static void troubleFlap() {
        CHECK.part("FLAP: 10 v more; or what the text lets be most");
        fits(seen("", 1, 1, 10), 0, 0, 1, 0, 0, 0);
        fits(seen("", 1, 1, 90), 0, 0, 1, 0, 0, 0);
        fits(seen("flap 9;", 1, 1, 99), 0, 0, 1, 0, 0, 0);
        fits(seen("flap 10;", 1, 1, 99), 0, 0, 1, 0, 0, 0);
        fits(seen("flap 10;", 1, 1, 100), 0, 0, 0, 0, 0, 0);
        fits(seen("flap 88;", 1, 1, 98), 0, 0, 1, 0, 0, 0);
        fits(seen("flap 89;", 1, 1, 99), 0, 0, 9, 0, 0, 0);
        fits(seen("flap 99;", 1, 1, 99), 9, 9, 9, 0, 9, 9);
        fits(seen("flap 99;", 1, 1, 102), 0, 0, 0, 1, 0, 0);
    }

    private static void troubleJoint() {
        CHECK.part("JOINT: 3 v more air; or what the text lets be most");
        fits(seen("joint 1 0;", 1, 1, 3), 0, 0, 0, 1, 0, 0);
        fits(seen("joint 1 0;", 1, 1, 27), 0, 0, 0, 1, 0, 0);
        fits(seen("joint 1 3;", 1, 1, 30), 0, 0, 0, 1, 0, 0);
        fits(seen("joint 1 4;", 1, 1, 30), 0, 0, 0, 1, 0, 0);
        fits(seen("joint 1 4;", 1, 1, 31), 0, 0, 0, 0, 0, 0);
        fits(seen("joint 1 27;", 1, 1, 30), 0, 0, 0, 9, 0, 0);
        fits(seen("joint 1 30;", 1, 1, 30), 9, 9, 0, 9, 9, 9);
        fits(seen("joint 1 30;", 1, 1, 33), 0, 0, 0, 0, 0, 0);
    }

    private static void troubleJointPlace() {
        CHECK.part("JOINT: at its depth; at 5 feet, where that is 99");
        fits(seen("joint 99 0;well 6 0 1;", 2, 0, 1), 0, 0, 0, 9, 0, 0);
        fits(seen("joint 99 0;well 5 0 1;", 2, 0, 1), 0, 0, 0, 0, 0, 0);
        fits(seen("joint 98 0;well 6 0 1;", 2, 0, 1), 0, 0, 0, 0, 0, 0);
        fits(seen("joint 98 0;well 99 0 1;", 2, 0, 1), 0, 0, 0, 9, 0, 0);
        fits(seen("joint 4 0;well 5 0 1;", 2, 0, 1), 0, 0, 0, 9, 0, 0);
        fits(seen("joint 6 0;well 6 0 1;", 2, 0, 1), 0, 0, 0, 0, 0, 0);
        fits(seen("joint 1 0;well 2 0 1;", 2, 0, 1), 0, 0, 0, 9, 0, 0);
        fits(seen("joint 99 7;well 99 0 1;", 1, 1, 10), 0, 0, 1, 1, 0, 0);
        fits(seen("joint 99 7;well 99 0 1;", 1, 1, 0), 9, 9, 0, 0, 9, 9);
    }

    private static void troubleDeep() {
        CHECK.part("DEEP: WATER 2 v feet more; or what the text lets be most");
        fits(seen("flap 99;well 80 0 1;", 1, 24, 820), 0, 0, 0, 0, 1, 0);
        fits(seen("flap 99;well 80 0 1;", 1, 24, 980), 0, 0, 0, 0, 1, 0);
        fits(seen("flap 99;well 81 0 1;", 1, 24, 990), 0, 0, 0, 0, 1, 0);
        fits(seen("flap 99;well 82 0 1;", 1, 24, 990), 0, 0, 0, 0, 1, 0);
        fits(seen("flap 99;well 83 0 1;", 1, 24, 990), 0, 0, 0, 0, 2, 0);
        fits(seen("flap 99;well 97 0 1;", 1, 24, 990), 0, 0, 0, 0, 9, 0);
        fits(seen("flap 99;well 98 0 1;", 1, 24, 990), 0, 0, 0, 0, 9, 0);
        fits(seen("flap 99;well 99 0 1;", 1, 24, 990), 9, 9, 9, 9, 9, 9);
    }

    private static void troubleSunk() {
        CHECK.part("SUNK: FOOT 4 v feet less (1 at least)");
        fits(seen("pump 37 10;well 1 0 1;", 0, 0, 0), 0, 0, 0, 0, 0, 0);
        fits(seen("pump 37 10;well 2 0 1;", 0, 0, 0), 0, 0, 0, 0, 0, 1);
        fits(seen("pump 5 10;well 1 0 1;", 0, 0, 0), 0, 0, 0, 0, 7, 0);
        fits(seen("pump 4 10;well 1 0 1;joint 99 0;", 0, 0, 2), 9, 4, 9, 9, 0, 9);
        fits(seen("pump 1 10;well 1 0 1;", 0, 0, 2), 9, 4, 9, 9, 0, 9);
        fits(seen("pump 1 10;well 1 0 1;", 0, 0, 0), 0, 0, 0, 0, 9, 0);
        fits(seen("pump 36 10;well 4 0 1;", 0, 0, 0), 0, 0, 0, 0, 0, 1);
        fits(seen("pump 30 10;well 26 0 1;", 0, 0, 27), 9, 0, 9, 0, 0, 1);
    }

    private static void allSigns() {
        CHECK.part("FITTING: all SIGNS are just so");
        YardPump x = new YardPump();
        x.sign(0, 0, 27);
        x.sign(1, 12, 0);
        x.sign(2, 0, 0);
        fits(x, 9, 0, 0, 0, 0, 3);
        x.sign(1, 12, 120);
        fits(x, 0, 0, 0, 0, 0, 0);
        x.unsign();
        x.sign(1, 12, 120);
        x.sign(1, 24, 240);
        x.sign(1, 1, 10);
        fits(x, 0, 0, 1, 0, 0, 0);
        x.sign(1, 1, 11);
        fits(x, 0, 0, 0, 0, 0, 0);
    }

    private static void chancesAtTheirEnds() {
        CHECK.part("CHANCE (0 .. 9; 1 at first)");
        YardPump x = new YardPump();
        for (int t = 0; t < 6; t++) {
            CHECK.due("chance(" + t + ", 9)", x.chance(t, 9), 1);
            CHECK.due("chance(" + t + ", 10)", x.chance(t, 10), YardPump.BAD);
            CHECK.due("chance(" + t + ", 0)", x.chance(t, 0), 9);
            CHECK.due("chance(" + t + ", -1)", x.chance(t, -1), YardPump.BAD);
            CHECK.due("chance(" + t + ", 8)", x.chance(t, 8), 0);
        }
        for (int t = 0; t < 6; t++) CHECK.due("mark(0, " + t + ")", x.mark(0, t), 8);
    }

    private static void odds(YardPump x, int t, int upper, int lower) {
        CHECK.due("odds(" + t + ", 0)", x.odds(t, 0), upper);
        CHECK.due("odds(" + t + ", 1)", x.odds(t, 1), lower);
    }

    private static void oddsState() {
        CHECK.part("ODDS: by all of them added (STATE: that is 0)");
        YardPump x = new YardPump();
        for (int t = 0; t < 6; t++) x.chance(t, 0);
        for (int t = 0; t < 6; t++) odds(x, t, YardPump.STATE, YardPump.STATE);
        for (int t = 0; t < 6; t++) {
            x.chance(t, 1);
            for (int other = 0; other < 6; other++) odds(x, other, other == t ? 1 : 0, 1);
            x.chance(t, 0);
        }
        x = new YardPump();
        x.sign(0, 0, 200);
        for (int t = 0; t < 6; t++) odds(x, t, YardPump.STATE, YardPump.STATE);
        x.unsign();
        x.sign(0, 0, 29);
        odds(x, 1, 1, 2);
        odds(x, 4, 1, 2);
        odds(x, 0, 0, 1);
        x.chance(1, 0);
        odds(x, 1, 0, 1);
        odds(x, 4, 1, 1);
        x.chance(4, 0);
        odds(x, 4, YardPump.STATE, YardPump.STATE);
    }

    private static void oddsInLeastTerms() {
        CHECK.part("ODDS: in least terms");
        YardPump x = new YardPump();
        for (int t = 0; t < 6; t++) x.chance(t, 9);
        for (int t = 0; t < 6; t++) odds(x, t, 1, 6);
        x.chance(0, 0);
        odds(x, 0, 0, 1);
        odds(x, 1, 1, 5);
        x.chance(0, 1);
        odds(x, 0, 1, 46);
        odds(x, 1, 9, 46);
        x.unsign();
        x.sign(0, 0, 27);
        odds(x, 0, 1, 13);
        odds(x, 2, 9, 13);
        odds(x, 5, 3, 13);
        odds(x, 1, 0, 1);
    }

    private static void tellsMostAndFirst() {
        CHECK.part("TELLS: that one by which it is most; of several the first");
        YardPump x = new YardPump();
        for (int t = 0; t < 6; t++) x.chance(t, 0);
        CHECK.due("tells(): 0, 0, 0", x.tells(), 0);
        x.chance(0, 9);
        CHECK.due("tells(): 81, 81, 81", x.tells(), 0);
        x.chance(2, 1);
        CHECK.due("tells(): 81, 90, 81", x.tells(), 1);
        x.chance(2, 0);
        x.chance(3, 9);
        CHECK.due("tells(): 162, 162, 162", x.tells(), 0);
        x = Check.told("pump 99 1;well 20 0 1;flap 99;");
        for (int t = 0; t < 6; t++) x.chance(t, t == 0 || t == 3 ? 1 : 0);
        CHECK.due("tells(): 9, 9, 18", x.tells(), 2);
        x = Check.told("pump 99 1;well 20 0 1;");
        for (int t = 0; t < 6; t++) x.chance(t, t == 0 || t == 3 ? 1 : 0);
        CHECK.due("tells(): 9, 18, 18", x.tells(), 1);
    }

    /** By hand: what WATER, BACK 12 and HISS add up to, by CHANCES of the six TROUBLES. */
    private static void tellsAddsUp() {
        CHECK.part("TELLS: the greatest CHANCE times how many of the nine (of 0: 9) give it, over all answers");
        int[][] rows = {{0, 1, 1, 1, 0, 0, 1}, {0, 0, 1, 0, 2, 3, 1}, {0, 1, 0, 1, 1, 0, 1}, {0, 0, 2, 2, 1, 0, 1},
            {3, 0, 2, 3, 3, 0, 0}};
        String[] sums = {"24, 25, 18", "35, 36, 27", "17, 18, 18", "40, 41, 36", "66, 66, 54"};
        for (int i = 0; i < rows.length; i++) {
            YardPump x = new YardPump();
            for (int t = 0; t < 6; t++) x.chance(t, rows[i][t]);
            CHECK.due("tells(): " + sums[i], x.tells(), rows[i][6]);
        }
    }

    /** From 260 T, 22 an hour run out in 12 hours but not in 11, 20 an hour in 13 but not in 12. */
    private static void tellsByTwelveHours() {
        CHECK.part("TELLS: BACK 12");
        int[][] rows = {{22, 0}, {20, 1}};
        for (int[] row : rows) {
            YardPump x = Check.told("flap " + row[0] + ";");
            for (int t : new int[] {1, 3, 4, 5}) x.chance(t, 0);
            CHECK.due("tells(), flap " + row[0], x.tells(), row[1]);
        }
    }

    private static void where(YardPump x, int seen, int least, int greatest) {
        CHECK.due("where(" + seen + ", 0)", x.where(seen, 0), least);
        CHECK.due("where(" + seen + ", 1)", x.where(seen, 1), greatest);
    }

    private static void whereEnds() {
        CHECK.part("WHERE: the depths (1 .. 99 feet): the least, the greatest");
        where(Check.told("joint 50 0;"), 27, 1, 99);
        where(Check.told("joint 50 5;"), 53, 1, 25);
        where(Check.told("joint 50 5;"), 27, 26, 99);
        where(Check.told("joint 50 5;well 1 0 1;"), 2, 1, 99);
        where(Check.told("joint 50 5;well 2 0 1;"), 5, 1, 1);
        where(Check.told("joint 50 5;well 2 0 1;"), 3, 2, 99);
        where(Check.told("pump 99 30;joint 50 5;well 99 0 1;"), 0, 1, 99);
        where(Check.told("joint 50 30;"), 0, 1, 25);
        where(Check.told("pump 99 1;well 19 0 1;joint 50 0;"), 191, 1, 99);
        where(Check.told("pump 99 30;well 1 0 1;"), 1, 1, 99);
    }

    private static void whereNone() {
        CHECK.part("WHERE: NONE");
        YardPump x = Check.told("joint 50 5;");
        for (int seen : new int[] {0, 1, 26, 28, 52, 54, 199, 200}) where(x, seen, YardPump.NONE, YardPump.NONE);
        CHECK.due("told(6)", x.told(6), 50);
        Check.pourTo(x, 0);
        x.strokes(100);
        where(x, 27, 26, 99);
        x.fitting(4);
        where(x, 27, 26, 99);
        x.choice(999, 0);
        where(x, 53, 1, 25);
    }

    private static void day(String text, int p, int n, int want) {
        CHECK.due("day(" + p + ", " + n + ") of \"" + text + "\"", Check.told(text).day(p, n), want);
    }

    /** By hand: 6000 cups an hour, 99 come back, till 32769 are drawn; then 3 or 4 strokes an hour. */
    private static void dayEnds() {
        CHECK.part("DAY at a pace of p STROKES an HOUR (1 .. 200) for n HOURS (1 .. 24)");
        day("", 1, 1, 10);
        day("", 1, 24, 240);
        day("pump 99 30;well 1 99 99;", 200, 1, 6000);
        day("pump 99 30;well 1 99 99;", 199, 1, 5970);
        day("pump 99 30;well 1 99 99;", 200, 5, 30000);
        day("pump 99 30;well 1 99 99;", 200, 6, 33270);
        day("pump 99 30;well 1 99 99;", 200, 7, 33390);
        day("pump 99 30;well 1 99 99;", 200, 8, 33480);
        day("pump 1 1;well 1 0 1;", 200, 24, 1);
        day("pump 1 1;well 2 0 1;", 200, 24, 0);
    }

    private static void dayFromFull() {
        CHECK.part("DAY: from a full pipe, nothing DRAWN, WET 100");
        day("leather 0;", 3, 1, 30);
        day("leather 0;flap 99;", 1, 2, 10);
        YardPump x = Check.told("well 33 0 1;pump 99 10;");
        CHECK.due("day(200, 24)", x.day(200, 24), 20);
        Check.pourTo(x, 0);
        x.strokes(200);
        CHECK.due("now(2)", x.now(2), 20);
        CHECK.due("day(200, 24), the well drawn", x.day(200, 24), 20);
        CHECK.due("two(9, 0, 24, 0), the well drawn", x.two(9, 0, 24, 0), 20);
        CHECK.due("now(2)", x.now(2), 20);
        CHECK.due("two(9, 0, 1, 0), the leather told dry", Check.told("leather 0;").two(1, 0, 1, 0), 100);
    }

    private static void strokesFirst() {
        CHECK.part("DAY: STROKES first, then the HOUR");
        day("flap 99;", 1, 1, 10);
        day("well 33 50 1;pump 99 10;", 200, 1, 20);
        day("well 33 50 1;pump 99 10;", 200, 2, 40);
        YardPump x = Check.told("flap 99;");
        CHECK.due("two(1, 1, 1, 1)", x.two(1, 1, 1, 1), 100);
        CHECK.due("two(0, 1, 1, 1)", x.two(0, 1, 1, 1), 100);
    }

    private static void bestPaceLeast() {
        CHECK.part("BEST pace: the least by which most come");
        CHECK.due("pace(1): 341 - 260 by 1 a cup", Check.told("pump 99 1;well 26 0 1;").pace(1), 81);
        CHECK.due("pace(1): two strokes", Check.told("pump 99 10;well 33 0 1;").pace(1), 2);
        CHECK.due("pace(24): one stroke an hour", Check.told("pump 99 10;well 33 0 1;").pace(24), 1);
        CHECK.due("pace(24): no water", Check.told("pump 1 10;").pace(24), 1);
        CHECK.due("pace(1): as many as may be", Check.told("pump 99 30;well 1 99 99;").pace(1), 200);
        CHECK.due("pace(1): 200 strokes leave 340", Check.told("pump 99 1;well 14 0 1;").pace(1), 200);
        CHECK.due("pace(1): 199 leave 340, one more", Check.told("pump 99 1;well 14 0 1;place 1 0;").pace(1), 200);
        CHECK.due("pace(1): 198 leave 338, one more", Check.told("pump 99 1;well 14 0 1;place 2 0;").pace(1), 199);
    }

    private static void twoEnds() {
        CHECK.part("TWO houses of paces p, q (0 .. 9, by tens of STROKES)");
        YardPump x = Check.told("pump 99 1;well 1 0 99;");
        int[][] rows = {{0, 0, 1, 0, 0}, {1, 0, 1, 10, 0}, {0, 1, 1, 0, 10}, {9, 9, 1, 90, 90}, {9, 0, 24, 2160, 0},
            {0, 9, 24, 0, 2160}, {9, 9, 24, 2160, 2160}, {8, 9, 1, 80, 90}};
        for (int[] r : rows) {
            CHECK.due("two(" + r[0] + ", " + r[1] + ", " + r[2] + ", 0)", x.two(r[0], r[1], r[2], 0), r[3]);
            CHECK.due("two(" + r[0] + ", " + r[1] + ", " + r[2] + ", 1)", x.two(r[0], r[1], r[2], 1), r[4]);
        }
        x = Check.told("pump 99 10;well 33 0 1;");
        CHECK.due("two(1, 1, 1, 0): the one is ahead", x.two(1, 1, 1, 0), 20);
        CHECK.due("two(1, 1, 1, 1)", x.two(1, 1, 1, 1), 0);
        CHECK.due("two(0, 1, 1, 1)", x.two(0, 1, 1, 1), 20);
    }

    /** The one takes all the water, or the other where the one does not pump: 10 q has as much for all q. */
    private static void restsTies() {
        CHECK.part("A REST: neither would have more by another pace alone");
        YardPump x = Check.told("pump 99 10;well 33 0 1;");
        CHECK.due("rests(1, 0)", x.rests(1, 0), 90);
        CHECK.due("rests(1, 1)", x.rests(1, 1), 10);
        x = Check.told("pump 1 10;well 2 0 1;");
        CHECK.due("rests(24, 0)", x.rests(24, 0), 100);
        CHECK.due("rests(24, 1)", x.rests(24, 1), 0);
        x = Check.told("pump 99 1;well 33 0 1;");
        CHECK.due("rests(1, 0): 11 cups, all by 20 strokes", x.rests(1, 0), 80);
        CHECK.due("rests(1, 1)", x.rests(1, 1), 20);
        x = Check.told("pump 99 1;well 1 0 99;");
        CHECK.due("rests(24, 0)", x.rests(24, 0), 1);
        CHECK.due("rests(24, 1)", x.rests(24, 1), 99);
    }

    private static void restsNone() {
        CHECK.part("RESTS: how many; the first; NONE");
        YardPump x = Check.told("pump 40 4;well 27 7 10;flap 52;joint 32 3;");
        CHECK.due("rests(4, 0)", x.rests(4, 0), 0);
        CHECK.due("rests(4, 1)", x.rests(4, 1), YardPump.NONE);
    }
}
