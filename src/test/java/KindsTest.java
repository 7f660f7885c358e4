/** Promises 31 to 35: kinds of troubles, images, counts and the trace. */
public final class KindsTest {
    private static final Check CHECK = new Check();

    public static void main(String[] args) {
        marks();
        marksRefused();
        images();
        imagesRefused();
        counts();
        traceStays();
        CHECK.end("KindsTest");
    }

    private static void marks() {
        CHECK.part("promises 31, 35");
        YardPump x = Check.told("leather 60;flap 3;");
        for (int t = 0; t < 6; t++) x.chance(t, t + 2);
        x.jug(99);
        x.jug(99);
        x.jug(99);
        x.strokes(10);
        x.hours(2);
        CHECK.due("now(0)", x.now(0), 6);
        CHECK.due("now(1)", x.now(1), 80);
        CHECK.due("now(7)", x.now(7), 266);
        long[] adds = {1, 11, 101, 1101, 10011, 100001};
        long all = 0;
        for (int t = 0; t < 6; t++) {
            int c = t + 2;
            int[] want = {c, c + 80, c - 6, 2 * (c - 6), c + 80 + t, c + 266};
            for (int kind = 0; kind < 6; kind++) {
                CHECK.due("mark(" + kind + ", " + t + ")", x.mark(kind, t), want[kind]);
                all += adds[kind];
                CHECK.due("trace()", x.trace(), all);
            }
        }
        CHECK.due("now(0), now(1), now(7)", x.now(0) + x.now(1) + x.now(7), 352);
    }

    private static void marksRefused() {
        CHECK.part("promise 31, refused");
        YardPump x = new YardPump();
        for (int v : new int[] {-1, 6, Integer.MIN_VALUE, Integer.MAX_VALUE}) {
            CHECK.due("mark(" + v + ", 0)", x.mark(v, 0), YardPump.NO);
            CHECK.due("mark(0, " + v + ")", x.mark(0, v), YardPump.NO);
            CHECK.due("mark(5, " + v + ")", x.mark(5, v), YardPump.NO);
        }
        CHECK.due("trace()", x.trace(), 0);
    }

    private static void nowIs(YardPump x, int... want) {
        for (int i = 0; i < want.length; i++) CHECK.due("now(" + i + ")", x.now(i), want[i]);
    }

    private static void images() {
        CHECK.part("promises 32, 33");
        YardPump x = Check.told("leather 50;flap 5;");
        CHECK.due("keep(0)", x.keep(0), 260);
        x.jug(99);
        x.jug(99);
        x.jug(99);
        CHECK.due("strokes(7)", x.strokes(7), 70);
        CHECK.due("hours(1)", x.hours(1), 5);
        nowIs(x, 5, 90, 50, 70, 7, 1, 26);
        CHECK.due("keep(1)", x.keep(1), 5);
        x.sign(2, 0, 1);
        x.chance(0, 4);
        x.hours(9);
        x.strokes(1);
        CHECK.due("back(0)", x.back(0), 260);
        nowIs(x, 260, 50, 0, 0, 0, 0, 0);
        x.strokes(3);
        CHECK.due("back(1)", x.back(1), 5);
        nowIs(x, 5, 90, 50, 70, 7, 1, 26);
        CHECK.due("back(1) again", x.back(1), 5);
        CHECK.due("back(0) again", x.back(0), 260);
        CHECK.due("back(1) leaves the signs", x.back(1) + x.count(0), 6);
        CHECK.due("chance(0, 1)", x.chance(0, 1), 4);
        CHECK.due("keep(0) over the first", x.keep(0), 5);
        x.anew();
        CHECK.due("back(0)", x.back(0), 5);
        nowIs(x, 5, 90, 50, 70, 7, 1, 26);
    }

    private static void imagesRefused() {
        CHECK.part("promises 32, 33, refused");
        YardPump x = new YardPump();
        for (int image : new int[] {-1, 2, Integer.MIN_VALUE, Integer.MAX_VALUE}) {
            CHECK.due("keep(" + image + ")", x.keep(image), YardPump.BAD);
            CHECK.due("back(" + image + ")", x.back(image), YardPump.BAD);
        }
        x.jug(60);
        CHECK.due("back(0)", x.back(0), YardPump.STATE);
        CHECK.due("keep(0)", x.keep(0), 200);
        CHECK.due("back(1)", x.back(1), YardPump.STATE);
        CHECK.due("now(0)", x.now(0), 200);
    }

    private static void counts() {
        CHECK.part("promise 34");
        YardPump x = new YardPump();
        x.sign(2, 0, 1);
        x.sand(5, 1);
        x.sand(6, 1);
        x.year(1, 1);
        x.year(1, 1);
        x.year(1, 1);
        x.type(0, 4);
        for (int i = 0; i < 4; i++) CHECK.due("count(" + i + ")", x.count(i), i + 1);
        for (int what : new int[] {-1, 4, Integer.MIN_VALUE, Integer.MAX_VALUE}) {
            CHECK.due("count(" + what + ")", x.count(what), YardPump.BAD);
        }
        x.unsign();
        x.clear();
        CHECK.due("count(0)", x.count(0), 0);
        CHECK.due("count(3)", x.count(3), 0);
    }

    private static void traceStays() {
        CHECK.part("promise 35");
        YardPump x = new YardPump();
        x.mark(4, 5);
        x.keep(0);
        x.mark(3, 0);
        x.back(0);
        x.anew();
        CHECK.due("trace()", x.trace(), 11112);
        x.pump();
        CHECK.due("trace()", x.trace(), 11112);
        for (int i = 0; i < 400; i++) x.mark(5, 1);
        CHECK.due("trace()", x.trace(), 40011512L);
    }
}
