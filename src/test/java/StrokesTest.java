/** Promises 6 to 13: strokes, jugs, hours, and what is asked of them. */
public final class StrokesTest {
    private static final Check CHECK = new Check();

    public static void main(String[] args) {
        strokes();
        lift();
        foot();
        joint();
        leather();
        felt();
        jugs();
        hours();
        wellComes();
        anew();
        until();
        least();
        night();
        refused();
        CHECK.end("StrokesTest");
    }

    private static void nowIs(YardPump x, int... want) {
        for (int i = 0; i < want.length; i++) CHECK.due("now(" + i + ")", x.now(i), want[i]);
    }

    private static void fill(YardPump x) {
        while (x.now(0) > 0) x.jug(Math.min(99, x.now(0)));
    }

    private static void strokes() {
        CHECK.part("promise 6");
        YardPump x = new YardPump();
        CHECK.due("strokes(26)", x.strokes(26), 0);
        nowIs(x, 0, 100, 0, 0, 26, 0, 25, 260, 340, 10);
        CHECK.due("strokes(3)", x.strokes(3), 30);
        nowIs(x, 0, 100, 30, 30, 29, 0, 26, 263, 340, 10);
        x = Check.told("pump 40 7;");
        CHECK.due("strokes(38): 266 by 260", x.strokes(38), 6);
        nowIs(x, 0, 100, 6, 6, 38, 0, 25, 260, 340, 7);
        x = Check.told("well 26 20 10;");
        CHECK.due("strokes(200): till the depth is 341", x.strokes(200), 810);
        nowIs(x, 0, 100, 810, 810, 200, 0, 34, 341, 340, 10);
        CHECK.due("strokes(1)", x.strokes(1), 0);
        nowIs(x, 0, 100, 810, 810, 201, 0, 34, 341, 340, 10);
    }

    private static void lift() {
        CHECK.part("promise 6, lift");
        YardPump x = Check.told("pump 99 30;well 36 0 1;");
        CHECK.due("strokes(11)", x.strokes(11), 0);
        CHECK.due("now(0)", x.now(0), 30);
        CHECK.due("strokes(1)", x.strokes(1), 0);
        nowIs(x, 20, 100, 0, 0, 12, 0, 33, 360, 340, 30);
        x.jug(5);
        CHECK.due("strokes(9)", x.strokes(9), 0);
        nowIs(x, 15, 100, 0, 0, 21, 0, 34, 360, 340, 30);
        x = Check.told("pump 99 30;well 20 0 1;place 99 40;");
        CHECK.due("now(8)", x.now(8), 201);
        CHECK.due("strokes(7): depth 200 is no higher", x.strokes(7), 10);
        CHECK.due("now(7)", x.now(7), 210);
        CHECK.due("strokes(7): it is now", x.strokes(7), 0);
        x = Check.told("pump 99 30;well 34 0 99;");
        CHECK.due("strokes(12): depth 340 is no higher", x.strokes(12), 20);
        x = Check.told("pump 99 30;well 34 0 99;place 1 0;");
        CHECK.due("strokes(12): 340 above 339", x.strokes(12), 0);
        CHECK.due("now(0)", x.now(0), 1);
    }

    private static void foot() {
        CHECK.part("promise 6, foot");
        YardPump x = Check.told("pump 2 10;well 2 0 1;");
        CHECK.due("strokes(2)", x.strokes(2), 0);
        CHECK.due("strokes(1)", x.strokes(1), 10);
        nowIs(x, 0, 100, 10, 10, 3, 0, 2, 30, 340, 0);
        CHECK.due("strokes(5)", x.strokes(5), 0);
        nowIs(x, 0, 100, 10, 10, 8, 0, 0, 30, 340, 0);
        x = Check.told("pump 25 10;");
        CHECK.due("now(9)", x.now(9), 0);
        CHECK.due("strokes(200)", x.strokes(200), 0);
        nowIs(x, 260, 100, 0, 0, 200, 0, 0, 260, 340, 0);
    }

    private static void joint() {
        CHECK.part("promise 6, joint");
        CHECK.due("joint 25 3, now(9)", Check.told("joint 25 3;").now(9), 7);
        CHECK.due("joint 26 3, now(9)", Check.told("joint 26 3;").now(9), 10);
        CHECK.due("joint 1 30, now(9)", Check.told("joint 1 30;").now(9), 0);
        YardPump x = Check.told("joint 26 3;well 26 20 10;");
        fill(x);
        CHECK.due("strokes(1)", x.strokes(1), 10);
        CHECK.due("now(9), the well is lower", x.now(9), 7);
        CHECK.due("strokes(2)", x.strokes(2), 14);
        x = Check.told("joint 5 10;");
        CHECK.due("strokes(200)", x.strokes(200), 0);
        nowIs(x, 260, 100, 0, 0, 200, 0, 0, 260, 340, 0);
    }

    private static void leather() {
        CHECK.part("promise 6, leather");
        CHECK.due("now(9): 7 by a half", Check.told("pump 40 7;leather 50;").now(9), 3);
        CHECK.due("now(9): dry", Check.told("leather 9;").now(9), 0);
        CHECK.due("now(9): a little dry", Check.told("leather 99;").now(9), 9);
        YardPump x = Check.told("leather 50;");
        CHECK.due("strokes(52)", x.strokes(52), 0);
        nowIs(x, 0, 50, 0, 0, 52, 0, 25, 260, 340, 5);
        CHECK.due("strokes(1)", x.strokes(1), 5);
        nowIs(x, 0, 100, 5, 5, 53, 0, 26, 260, 340, 10);
    }

    private static void felt() {
        CHECK.part("promise 9, what the arm felt");
        YardPump x = new YardPump();
        x.strokes(1);
        CHECK.due("now(6)", x.now(6), 0);
        x.strokes(2);
        CHECK.due("now(6)", x.now(6), 2);
        x.jug(15);
        CHECK.due("now(6)", x.now(6), 2);
        x.strokes(1);
        CHECK.due("now(6): 45 by 10", x.now(6), 4);
        x.hours(10);
        CHECK.due("now(6)", x.now(6), 4);
        CHECK.due("hours dried the leather: now(1)", x.now(1), 0);
        x.strokes(1);
        CHECK.due("now(6): no gain", x.now(6), 0);
        x = Check.told("pump 40 1;");
        x.jug(99);
        x.strokes(1);
        CHECK.due("now(6): a gain of 1", x.now(6), 9);
    }

    private static void jugs() {
        CHECK.part("promise 7");
        YardPump x = Check.told("leather 50;");
        CHECK.due("jug(1)", x.jug(1), 0);
        nowIs(x, 259, 55, 0, 0, 0, 0, 0);
        CHECK.due("jug(8)", x.jug(8), 0);
        nowIs(x, 251, 95);
        CHECK.due("jug(2)", x.jug(2), 0);
        nowIs(x, 249, 100);
        CHECK.due("jug(99)", x.jug(99), 0);
        CHECK.due("jug(99)", x.jug(99), 0);
        CHECK.due("jug(51)", x.jug(51), 0);
        CHECK.due("jug(1)", x.jug(1), 1);
        nowIs(x, 0, 100, 0, 0, 0, 0, 0, 260);
        x = Check.told("well 2 0 1;");
        CHECK.due("jug(99)", x.jug(99), 79);
        nowIs(x, 0, 100, 0, 0);
    }

    private static void hours() {
        CHECK.part("promise 8");
        YardPump x = Check.told("flap 7;");
        fill(x);
        CHECK.due("hours(1)", x.hours(1), 7);
        nowIs(x, 7, 90, 0, 0, 0, 1);
        CHECK.due("hours(2)", x.hours(2), 21);
        nowIs(x, 21, 70, 0, 0, 0, 3);
        CHECK.due("hours(48)", x.hours(48), 260);
        nowIs(x, 260, 0, 0, 0, 0, 51);
        x = new YardPump();
        fill(x);
        CHECK.due("hours(48): nothing runs back", x.hours(48), 0);
        nowIs(x, 0, 100, 0, 0, 0, 48);
        x = Check.told("flap 2;joint 25 3;");
        fill(x);
        CHECK.due("hours(2) with air", x.hours(2), 10);
        x = Check.told("flap 2;joint 26 3;");
        fill(x);
        CHECK.due("hours(2), joint under water", x.hours(2), 4);
        x = Check.told("leather 5;");
        CHECK.due("hours(1)", x.hours(1), 260);
        CHECK.due("now(1)", x.now(1), 0);
        x = Check.told("flap 1;");
        fill(x);
        CHECK.due("hours(1), a T", x.hours(1), 1);
        CHECK.due("now(1)", x.now(1), 90);
    }

    private static void wellComes() {
        CHECK.part("promise 8, the well");
        YardPump x = Check.told("well 10 50 1;flap 99;");
        fill(x);
        CHECK.due("strokes(10)", x.strokes(10), 100);
        CHECK.due("now(7)", x.now(7), 200);
        CHECK.due("hours(1)", x.hours(1), 99);
        nowIs(x, 99, 90, 50, 100, 10, 1, 19, 150);
        CHECK.due("hours(1)", x.hours(1), 100);
        nowIs(x, 100, 80, 0, 100, 10, 2, 19, 100);
        x = Check.told("well 10 60 1;flap 30;joint 15 5;");
        fill(x);
        x.strokes(10);
        CHECK.due("hours(1): the joint was above the water", x.hours(1), 35);
        CHECK.due("now(2): 6 strokes of 10, 4 of 5, less 60", x.now(2), 20);
        CHECK.due("hours(1): it is under it", x.hours(1), 65);
        CHECK.due("now(2)", x.now(2), 0);
        x = Check.told("well 20 0 3;");
        fill(x);
        x.strokes(2);
        CHECK.due("now(7): 20 by 3", x.now(7), 206);
        x.hours(9);
        CHECK.due("now(2): none comes", x.now(2), 20);
    }

    private static void anew() {
        CHECK.part("promise 10");
        YardPump x = Check.told("leather 40;flap 5;");
        CHECK.due("anew()", x.anew(), 0);
        fill(x);
        x.strokes(7);
        x.hours(2);
        x.keep(0);
        CHECK.due("anew()", x.anew(), 70);
        nowIs(x, 260, 40, 0, 0, 0, 0, 0, 260, 340, 4);
        CHECK.due("back(0)", x.back(0), 10);
        nowIs(x, 10, 80, 30, 70, 7, 2, 26, 263);
    }

    private static void until() {
        CHECK.part("promise 11");
        YardPump x = new YardPump();
        CHECK.due("until()", x.until(), 27);
        nowIs(x, 260, 100, 0, 0, 0, 0, 0);
        x.jug(1);
        CHECK.due("until() from 259", x.until(), 26);
        fill(x);
        CHECK.due("until() from full", x.until(), 1);
        x = Check.told("well 20 20 10;pump 40 1;");
        CHECK.due("until() of 201", x.until(), YardPump.NONE);
        x.jug(1);
        CHECK.due("until() of 200", x.until(), 200);
        CHECK.due("until(), no gain", Check.told("leather 9;").until(), YardPump.NONE);
        CHECK.due("until(), foot dry", Check.told("pump 25 10;").until(), YardPump.NONE);
        CHECK.due("until(), too deep", Check.told("pump 99 30;well 35 0 1;").until(), YardPump.NONE);
        CHECK.due("until(), just not", Check.told("pump 99 30;well 34 0 1;").until(), 12);
        x = Check.told("pump 99 30;well 34 0 1;");
        x.strokes(12);
        CHECK.due("until(), the well has sunk", x.until(), YardPump.NONE);
        CHECK.due("strokes(1)", x.strokes(1), 0);
    }

    private static void least() {
        CHECK.part("promise 12");
        YardPump x = Check.told("pump 40 1;well 20 20 10;");
        CHECK.due("least(200)", x.least(200), 1);
        CHECK.due("least(199)", x.least(199), 2);
        CHECK.due("least(102)", x.least(102), 99);
        CHECK.due("least(101)", x.least(101), YardPump.NONE);
        CHECK.due("least(1)", x.least(1), YardPump.NONE);
        nowIs(x, 200, 100, 0, 0, 0, 0, 0);
        x = new YardPump();
        CHECK.due("least(27)", x.least(27), 0);
        CHECK.due("least(26)", x.least(26), 1);
        CHECK.due("least(200)", x.least(200), 0);
        x = Check.told("leather 0;");
        CHECK.due("least(200): 2 cups wet it to 10", x.least(200), 4);
        CHECK.due("least(26): 20 cups wet it whole", x.least(26), 20);
        CHECK.due("now(1)", x.now(1), 0);
        fill(x);
        CHECK.due("least(1) from full", x.least(1), 0);
        CHECK.due("least, too deep", Check.told("pump 99 30;well 35 0 1;").least(200), YardPump.NONE);
    }

    private static void night() {
        CHECK.part("promise 13");
        YardPump x = Check.told("flap 7;well 26 20 1;");
        fill(x);
        x.strokes(3);
        CHECK.due("night(1)", x.night(1), 7);
        CHECK.due("night(3)", x.night(3), 21);
        CHECK.due("night(48)", x.night(48), 260);
        nowIs(x, 0, 100, 30, 30, 3, 0, 28, 290);
        CHECK.due("hours(3)", x.hours(3), 21);
        CHECK.due("night(1)", x.night(1), 28);
    }

    private static void refused() {
        CHECK.part("promises 6 to 13, refused");
        YardPump x = new YardPump();
        for (int n : new int[] {0, 201, -1, Integer.MIN_VALUE, Integer.MAX_VALUE}) {
            CHECK.due("strokes(" + n + ")", x.strokes(n), YardPump.BAD);
            CHECK.due("least(" + n + ")", x.least(n), YardPump.BAD);
        }
        for (int n : new int[] {0, 100, -1, Integer.MIN_VALUE, Integer.MAX_VALUE}) {
            CHECK.due("jug(" + n + ")", x.jug(n), YardPump.BAD);
        }
        for (int n : new int[] {0, 49, -1, Integer.MIN_VALUE, Integer.MAX_VALUE}) {
            CHECK.due("hours(" + n + ")", x.hours(n), YardPump.BAD);
            CHECK.due("night(" + n + ")", x.night(n), YardPump.BAD);
        }
        for (int n : new int[] {10, -1, Integer.MIN_VALUE, Integer.MAX_VALUE}) {
            CHECK.due("now(" + n + ")", x.now(n), YardPump.BAD);
        }
        nowIs(x, 260, 100, 0, 0, 0, 0, 0, 260, 340, 10);
    }
}
