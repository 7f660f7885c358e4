/** What each question starts from: NOW, or an empty or a full pipe with nothing DRAWN, whatever was done ahead of it. */
public final class StartsTest {
    private static final Check CHECK = new Check();

    /** The joint is just under water where nothing is DRAWN, and above it behind the third stroke. */
    private static final String TEXT = "pump 40 10;well 10 2 1;flap 5;joint 12 3;leather 60;";

    public static void main(String[] args) {
        asTold();
        wellDrawn();
        stoodDry();
        backFromImage();
        readAnew();
        CHECK.end("StartsTest");
    }

    private static void nowIs(YardPump x, int... want) {
        for (int i = 0; i < want.length; i++) CHECK.due("now(" + i + ")", x.now(i), want[i]);
    }

    private static void asTold() {
        YardPump x = Check.told(TEXT);
        CHECK.part("as told");
        nowIs(x, 100, 60, 0, 0, 0, 0, 0, 100, 340, 6);
        CHECK.due("until()", x.until(), 17);
        CHECK.due("night(1)", x.night(1), 100);
        noneStartsFromNow("as told", x);
    }

    private static YardPump drawn() {
        YardPump x = Check.told(TEXT);
        Check.pourTo(x, 0);
        CHECK.due("strokes(20): 3 of 10, 17 of 7", x.strokes(20), 149);
        return x;
    }

    private static void wellDrawn() {
        CHECK.part("the well drawn, the pipe full");
        YardPump x = drawn();
        nowIs(x, 0, 100, 149, 149, 20, 0, 24, 249, 340, 7);
        CHECK.due("until()", x.until(), 1);
        CHECK.due("night(1): the joint is above the water", x.night(1), 8);
        noneStartsFromNow("the well drawn, the pipe full", x);
    }

    private static YardPump dry() {
        YardPump x = drawn();
        CHECK.due("hours(3)", x.hours(3), 24);
        return x;
    }

    private static void stoodDry() {
        CHECK.part("the well drawn, the column sunk, the leather dry");
        YardPump x = dry();
        nowIs(x, 24, 70, 143, 149, 20, 3, 24, 243, 340, 4);
        CHECK.due("until()", x.until(), 7);
        CHECK.due("least(7)", x.least(7), 0);
        CHECK.due("least(2)", x.least(2), 11);
        CHECK.due("least(1)", x.least(1), 18);
        CHECK.due("night(1)", x.night(1), 32);
        CHECK.due("night(2)", x.night(2), 40);
        noneStartsFromNow("the well drawn, the column sunk, the leather dry", x);
        CHECK.due("hours(7)", x.hours(7), 80);
        nowIs(x, 80, 0, 129, 149, 20, 10, 24, 229, 340, 0);
        CHECK.due("until()", x.until(), YardPump.NONE);
        noneStartsFromNow("no water NOW", x);
    }

    private static void backFromImage() {
        CHECK.part("NOW from an image");
        YardPump x = dry();
        x.keep(1);
        x.anew();
        CHECK.due("until()", x.until(), 17);
        CHECK.due("back(1)", x.back(1), 24);
        CHECK.due("until()", x.until(), 7);
        noneStartsFromNow("NOW from an image", x);
    }

    private static void noneStartsFromNow(String state, YardPump x) {
        signs(state, x);
        days(state, x);
        works(state, x);
    }

    private static void signs(String state, YardPump x) {
        int[][] seen = {{0, 0, 17}, {1, 12, 60}, {1, 24, 100}, {2, 0, 0}};
        int[][] fits = {{9, 0, 9, 9, 0, 7}, {9, 9, 0, 9, 1, 9}, {9, 9, 9, 9, 0, 9}, {9, 9, 9, 9, 1, 9}};
        String[] words = {"WATER: from an empty pipe, nothing DRAWN", "BACK: from a full one", "BACK, DEPTH at most",
            "HISS: air at the JOINT, which is higher than the water"};
        for (int i = 0; i < seen.length; i++) {
            CHECK.part(words[i] + " (" + state + ")");
            x.sign(seen[i][0], seen[i][1], seen[i][2]);
            for (int t = 0; t < 6; t++) CHECK.due("fitting(" + t + ")", x.fitting(t), fits[i][t]);
            x.unsign();
        }
        CHECK.part("ODDS (" + state + ")");
        for (int[] s : seen) x.sign(s[0], s[1], s[2]);
        int[] all = {9, 0, 0, 9, 0, 7};
        for (int t = 0; t < 6; t++) {
            CHECK.due("fitting(" + t + ")", x.fitting(t), all[t]);
            CHECK.due("odds(" + t + ", 0)", x.odds(t, 0), all[t]);
            CHECK.due("odds(" + t + ", 1)", x.odds(t, 1), all[t] > 0 ? 25 : 1);
        }
        x.unsign();
        CHECK.part("WHERE (" + state + ")");
        int[][] rows = {{17, 10, 99}, {34, 1, 9}, {1, -9, -9}, {7, -9, -9}, {0, -9, -9}};
        for (int[] row : rows) {
            CHECK.due("where(" + row[0] + ", 0)", x.where(row[0], 0), row[1]);
            CHECK.due("where(" + row[0] + ", 1)", x.where(row[0], 1), row[2]);
        }
    }

    private static void days(String state, YardPump x) {
        CHECK.part("DAY: from a full pipe, nothing DRAWN, WET 100 (" + state + ")");
        CHECK.due("day(3, 1)", x.day(3, 1), 30);
        CHECK.due("day(3, 2)", x.day(3, 2), 41);
        CHECK.due("pace(1): 247 cups by 3 strokes of 10 and 31 of 7", x.pace(1), 34);
        CHECK.part("TWO: from a full pipe (" + state + ")");
        CHECK.due("two(1, 0, 1, 0)", x.two(1, 0, 1, 0), 79);
        CHECK.due("two(0, 1, 1, 1)", x.two(0, 1, 1, 1), 79);
        CHECK.due("two(1, 1, 1, 0)", x.two(1, 1, 1, 0), 79);
        CHECK.due("two(1, 1, 1, 1)", x.two(1, 1, 1, 1), 70);
        CHECK.due("two(4, 1, 1, 0)", x.two(4, 1, 1, 0), 247);
        CHECK.due("two(4, 1, 1, 1)", x.two(4, 1, 1, 1), 0);
        CHECK.part("RESTS (" + state + ")");
        CHECK.due("rests(1, 0): the one has all by 40 strokes and more, the other nothing by any", x.rests(1, 0), 60);
        CHECK.due("rests(1, 1)", x.rests(1, 1), 40);
    }

    private static void works(String state, YardPump x) {
        CHECK.part("CHOICE: from the pipe empty, nothing DRAWN, WET as told (" + state + ")");
        int[][] rows = {{0, 0, 0}, {247, 0, 0}, {248, 4, 10}, {250, 4, 10}, {251, -9, -9}};
        for (int[] row : rows) {
            CHECK.due("choice(" + row[0] + ", 0)", x.choice(row[0], 0), row[1]);
            CHECK.due("choice(" + row[0] + ", 1)", x.choice(row[0], 1), row[2]);
        }
    }

    /** The document has the images gone where a text is read, and says nothing of them where NOW is as at first. */
    private static void readAnew() {
        CHECK.part("Read anew: NOW is as at first, IMAGES are gone");
        YardPump x = dry();
        x.keep(0);
        CHECK.due("anew(): cups that had come", x.anew(), 149);
        nowIs(x, 100, 60, 0, 0, 0, 0, 0, 100, 340, 6);
        CHECK.due("back(0) behind anew()", x.back(0), 24);
        nowIs(x, 24, 70, 143, 149, 20, 3, 24, 243, 340, 4);
        Check.write(x, "pump 41;");
        CHECK.due("pump(), a FAULT", x.pump(), -17);
        CHECK.due("back(0) behind a FAULT", x.back(0), 24);
        x.clear();
        Check.write(x, TEXT);
        CHECK.due("pump()", x.pump(), 5);
        nowIs(x, 100, 60, 0, 0, 0, 0, 0, 100, 340, 6);
        CHECK.due("back(0) behind pump()", x.back(0), YardPump.STATE);
        CHECK.due("back(1) behind pump()", x.back(1), YardPump.STATE);
    }
}
