/** Promises 14 to 20: signs, troubles, odds, what tells most, and where the joint is. */
public final class TroublesTest {
    private static final Check CHECK = new Check();

    public static void main(String[] args) {
        signs();
        chances();
        noSigns();
        water();
        back();
        hiss();
        ends();
        severalSigns();
        odds();
        tells();
        where();
        CHECK.end("TroublesTest");
    }

    private static void fits(YardPump x, int... want) {
        for (int t = 0; t < want.length; t++) CHECK.due("fitting(" + t + ")", x.fitting(t), want[t]);
    }

    private static YardPump seen(String text, int what, int n, int seen) {
        YardPump x = Check.told(text);
        CHECK.due("sign(" + what + ", " + n + ", " + seen + ")", x.sign(what, n, seen), 1);
        return x;
    }

    private static void signs() {
        CHECK.part("promises 14, 15");
        YardPump x = new YardPump();
        int[][] bad = {{-1, 0, 0}, {3, 0, 0}, {0, 1, 5}, {0, -1, 5}, {0, 0, -1}, {0, 0, 201}, {1, 0, 5}, {1, 25, 5},
            {1, 1, -1}, {1, 1, 1000}, {2, 1, 0}, {2, -1, 0}, {2, 0, 2}, {2, 0, -1},
            {Integer.MIN_VALUE, 0, 0}, {Integer.MAX_VALUE, 0, 0}, {1, Integer.MAX_VALUE, 0}};
        for (int[] b : bad) CHECK.due("sign(" + b[0] + ", " + b[1] + ", " + b[2] + ")", x.sign(b[0], b[1], b[2]), -1);
        CHECK.due("count(0)", x.count(0), 0);
        int[][] good = {{0, 0, 0}, {0, 0, 200}, {1, 1, 0}, {1, 24, 999}, {2, 0, 0}, {2, 0, 1}};
        for (int i = 0; i < good.length; i++) {
            CHECK.due("sign number " + i, x.sign(good[i][0], good[i][1], good[i][2]), i + 1);
        }
        CHECK.due("sign, the seventh", x.sign(2, 0, 0), YardPump.FULL);
        CHECK.due("sign, BAD ahead of FULL", x.sign(2, 0, 2), YardPump.BAD);
        CHECK.due("count(0)", x.count(0), 6);
        CHECK.due("unsign()", x.unsign(), 6);
        CHECK.due("unsign()", x.unsign(), 0);
        CHECK.due("sign behind it", x.sign(2, 0, 0), 1);
    }

    private static void chances() {
        CHECK.part("promise 16");
        YardPump x = new YardPump();
        CHECK.due("chance(5, 9)", x.chance(5, 9), 1);
        CHECK.due("chance(5, 0)", x.chance(5, 0), 9);
        CHECK.due("chance(0, 3)", x.chance(0, 3), 1);
        for (int t : new int[] {-1, 6, Integer.MIN_VALUE, Integer.MAX_VALUE}) {
            CHECK.due("chance(" + t + ", 1)", x.chance(t, 1), YardPump.BAD);
            CHECK.due("fitting(" + t + ")", x.fitting(t), YardPump.BAD);
            CHECK.due("odds(" + t + ", 0)", x.odds(t, 0), YardPump.BAD);
        }
        CHECK.due("chance(5, 10)", x.chance(5, 10), YardPump.BAD);
        CHECK.due("chance(5, -1)", x.chance(5, -1), YardPump.BAD);
        CHECK.due("chance(5, 1)", x.chance(5, 1), 0);
        CHECK.due("chance(0, 1)", x.chance(0, 1), 3);
    }

    private static void noSigns() {
        CHECK.part("promise 17, no signs");
        fits(new YardPump(), 9, 9, 9, 9, 9, 9);
    }

    private static void water() {
        CHECK.part("promise 17, water");
        fits(seen("", 0, 0, 27), 9, 0, 9, 0, 0, 3);
        fits(seen("", 0, 0, 0), 0, 1, 0, 7, 5, 6);
        fits(seen("", 0, 0, 29), 0, 1, 0, 0, 1, 0);
        fits(seen("", 0, 0, 38), 0, 1, 0, 1, 0, 0);
        fits(seen("", 0, 0, 35), 0, 0, 0, 0, 1, 0);
        fits(seen("", 0, 0, 26), 0, 0, 0, 0, 0, 0);
        YardPump x = seen("", 0, 0, 27);
        x.jug(99);
        x.strokes(40);
        fits(x, 9, 0, 9, 0, 0, 3);
    }

    private static void back() {
        CHECK.part("promise 17, back");
        fits(seen("", 1, 2, 20), 0, 0, 1, 0, 0, 0);
        fits(seen("", 1, 2, 36), 0, 0, 0, 1, 0, 0);
        fits(seen("", 1, 6, 180), 0, 0, 1, 0, 0, 0);
        fits(seen("", 1, 24, 260), 0, 0, 8, 6, 0, 0);
        fits(seen("", 1, 24, 0), 9, 9, 0, 0, 9, 9);
        fits(seen("flap 5;", 1, 3, 15), 9, 9, 0, 0, 9, 9);
        fits(seen("flap 5;", 1, 3, 45), 0, 0, 1, 0, 0, 0);
        fits(seen("flap 5;", 1, 3, 24), 0, 0, 0, 1, 0, 0);
    }

    private static void hiss() {
        CHECK.part("promise 17, hiss");
        fits(seen("", 2, 0, 1), 0, 0, 0, 9, 0, 0);
        fits(seen("", 2, 0, 0), 9, 9, 9, 0, 9, 9);
        fits(seen("joint 10 1;", 2, 0, 1), 9, 9, 9, 9, 9, 9);
        fits(seen("joint 10 0;", 2, 0, 1), 0, 0, 0, 9, 0, 0);
        fits(seen("joint 26 5;", 2, 0, 1), 0, 0, 0, 0, 9, 0);
        fits(seen("joint 29 5;", 2, 0, 1), 0, 0, 0, 0, 8, 0);
        fits(seen("joint 25 5;", 2, 0, 0), 0, 0, 0, 0, 0, 0);
        fits(seen("joint 26 5;well 26 20 1;", 2, 0, 1), 0, 0, 0, 0, 9, 0);
    }

    /** Numbers beyond what they may be. */
    private static void ends() {
        CHECK.part("promise 17, ends");
        fits(seen("flap 95;", 1, 1, 99), 0, 0, 9, 0, 0, 0);
        fits(seen("flap 85;", 1, 1, 95), 0, 0, 1, 0, 0, 0);
        fits(seen("joint 10 30;", 1, 1, 30), 9, 9, 0, 9, 9, 9);
        fits(seen("joint 10 10;", 1, 1, 28), 0, 0, 0, 1, 0, 0);
        fits(seen("joint 10 10;", 1, 1, 30), 0, 0, 1, 3, 0, 0);
        fits(seen("joint 99 5;", 1, 1, 8), 0, 0, 0, 1, 0, 0);
        fits(seen("joint 98 5;well 20 0 1;", 1, 1, 8), 0, 0, 0, 0, 0, 0);
        fits(seen("joint 4 5;well 5 0 1;", 1, 1, 8), 0, 0, 0, 1, 0, 0);
        fits(seen("joint 99 5;well 5 0 1;", 1, 1, 8), 0, 0, 0, 0, 0, 0);
        fits(seen("joint 99 5;well 6 0 1;", 1, 1, 8), 0, 0, 0, 1, 0, 0);
        fits(seen("well 98 0 1;flap 99;", 1, 24, 990), 0, 0, 0, 0, 9, 0);
        fits(seen("pump 40 30;", 0, 0, 87), 0, 1, 0, 1, 0, 0);
        fits(seen("pump 3 10;well 2 0 1;", 0, 0, 0), 0, 0, 0, 0, 9, 9);
        fits(seen("leather 30;", 0, 0, 0), 0, 8, 0, 9, 5, 6);
        fits(seen("leather 30;", 0, 0, 131), 0, 1, 0, 0, 0, 0);
        fits(seen("pump 3 10;well 1 0 1;", 0, 0, 2), 9, 4, 9, 9, 0, 9);
        fits(seen("pump 8 10;well 5 0 1;", 0, 0, 0), 0, 0, 0, 0, 8, 9);
    }

    private static void severalSigns() {
        CHECK.part("promise 17, several signs");
        YardPump x = seen("", 0, 0, 0);
        x.sign(2, 0, 0);
        fits(x, 0, 1, 0, 0, 5, 6);
        x.sign(1, 12, 0);
        fits(x, 0, 1, 0, 0, 5, 6);
        x.sign(1, 12, 1);
        fits(x, 0, 0, 0, 0, 0, 0);
        x.unsign();
        fits(x, 9, 9, 9, 9, 9, 9);
    }

    private static void odds() {
        CHECK.part("promise 18");
        YardPump x = new YardPump();
        CHECK.due("odds(2, 0)", x.odds(2, 0), 1);
        CHECK.due("odds(2, 1)", x.odds(2, 1), 6);
        x.sign(0, 0, 0);
        int[] upper = {0, 1, 0, 7, 5, 6};
        int[] lower = {1, 19, 1, 19, 19, 19};
        for (int t = 0; t < 6; t++) {
            CHECK.due("odds(" + t + ", 0)", x.odds(t, 0), upper[t]);
            CHECK.due("odds(" + t + ", 1)", x.odds(t, 1), lower[t]);
        }
        x.chance(4, 9);
        x.chance(3, 0);
        x.chance(1, 2);
        CHECK.due("odds(4, 0)", x.odds(4, 0), 45);
        CHECK.due("odds(4, 1)", x.odds(4, 1), 53);
        x.chance(5, 0);
        x.chance(1, 5);
        CHECK.due("odds(4, 0): 45 by 50", x.odds(4, 0), 9);
        CHECK.due("odds(4, 1)", x.odds(4, 1), 10);
        CHECK.due("odds(4, 2)", x.odds(4, 2), YardPump.BAD);
        CHECK.due("odds(4, -1)", x.odds(4, -1), YardPump.BAD);
        x.chance(4, 0);
        x.chance(1, 0);
        CHECK.due("odds(4, 0)", x.odds(4, 0), YardPump.STATE);
        CHECK.due("odds(0, 1)", x.odds(0, 1), YardPump.STATE);
        CHECK.due("odds, BAD ahead of STATE", x.odds(0, 2), YardPump.BAD);
        CHECK.due("odds, BAD ahead of STATE", x.odds(6, 0), YardPump.BAD);
    }

    private static void tells() {
        CHECK.part("promise 19");
        YardPump x = new YardPump();
        CHECK.due("tells(): 26, 25, 18", x.tells(), 0);
        for (int t : new int[] {1, 3, 4, 5}) x.chance(t, 0);
        CHECK.due("tells(): 9, 18, 9", x.tells(), 1);
        x.sign(1, 12, 0);
        x.sign(0, 0, 1);
        CHECK.due("tells(), whatever was seen", x.tells(), 1);
        x.chance(2, 0);
        x.chance(3, 1);
        CHECK.due("tells(): 18, 18, 18", x.tells(), 0);
        x.chance(0, 0);
        x.chance(3, 0);
        CHECK.due("tells(): nothing has a chance", x.tells(), 0);
        x = Check.told("pump 10 10;flap 99;");
        CHECK.due("tells(): 9, 18, 18", x.tells(), 1);
        tellsByTwelveHours();
        x = Check.told("pump 10 10;flap 99;");
        x.chance(4, 0);
        CHECK.due("tells(): 9, 9, 18", x.tells(), 2);
    }

    /** From 260 T, 22 an hour run out in 12 hours but not in 11, 20 an hour in 13 but not in 12. */
    private static void tellsByTwelveHours() {
        YardPump x = Check.told("flap 22;");
        for (int t : new int[] {1, 3, 4, 5}) x.chance(t, 0);
        CHECK.due("tells(): 9, 9, 9", x.tells(), 0);
        x = Check.told("flap 20;");
        for (int t : new int[] {1, 3, 4, 5}) x.chance(t, 0);
        CHECK.due("tells(): 9, 18, 9", x.tells(), 1);
    }

    private static void where() {
        CHECK.part("promise 20");
        YardPump x = Check.told("joint 10 3;leather 80;");
        int[][] want = {{53, 1, 25}, {33, 26, 99}, {0, -9, -9}, {52, -9, -9}, {200, -9, -9}};
        for (int[] w : want) {
            CHECK.due("where(" + w[0] + ", 0)", x.where(w[0], 0), w[1]);
            CHECK.due("where(" + w[0] + ", 1)", x.where(w[0], 1), w[2]);
        }
        CHECK.due("told(6)", x.told(6), 10);
        x = Check.told("joint 50 10;");
        CHECK.due("where(0, 0)", x.where(0, 0), 1);
        CHECK.due("where(0, 1)", x.where(0, 1), 25);
        x = Check.told("");
        x.strokes(30);
        CHECK.due("where(27, 0)", x.where(27, 0), 1);
        CHECK.due("where(27, 1)", x.where(27, 1), 99);
        int[][] bad = {{-1, 0}, {201, 0}, {0, -1}, {0, 2}, {Integer.MIN_VALUE, 0}, {Integer.MAX_VALUE, 1}};
        for (int[] b : bad) CHECK.due("where(" + b[0] + ", " + b[1] + ")", x.where(b[0], b[1]), YardPump.BAD);
    }
}
