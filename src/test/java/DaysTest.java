/** Promises 21 to 24: a day's water, the best pace, two houses and their rests. */
public final class DaysTest {
    private static final Check CHECK = new Check();

    public static void main(String[] args) {
        days();
        paces();
        two();
        rests();
        nowStays();
        refused();
        CHECK.end("DaysTest");
    }

    private static void days() {
        CHECK.part("promise 21");
        YardPump x = new YardPump();
        CHECK.due("day(1, 1)", x.day(1, 1), 10);
        CHECK.due("day(1, 24)", x.day(1, 24), 240);
        CHECK.due("day(200, 1)", x.day(200, 1), 810);
        x = Check.told("pump 40 10;well 34 5 1;");
        CHECK.due("day(200, 2)", x.day(200, 2), 10);
        CHECK.due("day(200, 3)", x.day(200, 3), 20);
        CHECK.due("day(1, 5)", x.day(1, 5), 30);
        x = Check.told("flap 30;");
        CHECK.due("day(2, 2)", x.day(2, 2), 20);
        CHECK.due("day(5, 2)", x.day(5, 2), 66);
        CHECK.due("day(5, 2), leather told dry", Check.told("flap 30;leather 0;").day(5, 2), 66);
        CHECK.due("day(5, 2), foot dry", Check.told("pump 2 10;").day(5, 2), 0);
    }

    private static void paces() {
        CHECK.part("promise 22");
        CHECK.due("pace(1)", new YardPump().pace(1), 81);
        CHECK.due("pace(3)", Check.told("well 34 5 1;").pace(3), 1);
        CHECK.due("pace(1), no water at all", Check.told("pump 2 10;").pace(1), 1);
        CHECK.due("pace(1), never too much", Check.told("well 1 0 99;pump 40 10;").pace(1), 200);
        CHECK.due("pace(2): 9, 18, .. till the depth is above 340", Check.told("well 26 0 1;").pace(2), 5);
    }

    private static void two() {
        CHECK.part("promise 23");
        YardPump x = Check.told("flap 30;");
        int[][] want = {{1, 0, 2, 166, 0}, {0, 1, 2, 0, 166}, {0, 0, 24, 0, 0}, {1, 1, 1, 100, 100},
            {1, 1, 2, 166, 200}, {2, 1, 1, 200, 100}};
        for (int[] w : want) {
            String call = "two(" + w[0] + ", " + w[1] + ", " + w[2] + ", ";
            CHECK.due(call + "0)", x.two(w[0], w[1], w[2], 0), w[3]);
            CHECK.due(call + "1)", x.two(w[0], w[1], w[2], 1), w[4]);
        }
        x = Check.told("well 34 0 1;");
        CHECK.due("two(1, 9, 24, 0)", x.two(1, 9, 24, 0), 10);
        CHECK.due("two(1, 9, 24, 1)", x.two(1, 9, 24, 1), 0);
        CHECK.due("two(0, 9, 24, 1)", x.two(0, 9, 24, 1), 10);
        CHECK.due("two(9, 0, 24, 0)", x.two(9, 0, 24, 0), 10);
        CHECK.due("two(9, 9, 1, 0)", new YardPump().two(9, 9, 1, 0), 810);
        CHECK.due("two(9, 9, 1, 1)", new YardPump().two(9, 9, 1, 1), 0);
    }

    private static void rests() {
        CHECK.part("promise 24");
        YardPump x = Check.told("well 34 0 1;");
        CHECK.due("rests(5, 0): the one takes all", x.rests(5, 0), 90);
        CHECK.due("rests(5, 1)", x.rests(5, 1), 10);
        x = Check.told("pump 2 10;");
        CHECK.due("rests(24, 0): no water", x.rests(24, 0), 100);
        CHECK.due("rests(24, 1)", x.rests(24, 1), 0);
        x = Check.told("well 1 99 99;pump 40 1;");
        CHECK.due("rests(1, 0): each as much as it can", x.rests(1, 0), 1);
        CHECK.due("rests(1, 1)", x.rests(1, 1), 99);
        x = Check.told("pump 40 4;well 27 7 10;flap 52;joint 32 3;");
        CHECK.due("rests(4, 0): none", x.rests(4, 0), 0);
        CHECK.due("rests(4, 1)", x.rests(4, 1), YardPump.NONE);
    }

    private static void nowStays() {
        CHECK.part("promises 21 to 24, now");
        YardPump x = Check.told("leather 50;");
        x.jug(5);
        x.strokes(3);
        x.day(9, 9);
        x.pace(2);
        x.two(1, 2, 3, 0);
        x.rests(2, 0);
        int[] now = {234, 75, 0, 0, 3, 0, 1};
        for (int i = 0; i < now.length; i++) CHECK.due("now(" + i + ")", x.now(i), now[i]);
        x.strokes(99);
        CHECK.due("day(10, 1), from a full pipe", x.day(10, 1), 100);
        CHECK.due("two(1, 0, 1, 0)", x.two(1, 0, 1, 0), 100);
    }

    private static void refused() {
        CHECK.part("promises 21 to 24, refused");
        YardPump x = new YardPump();
        for (int p : new int[] {0, 201, -1, Integer.MIN_VALUE, Integer.MAX_VALUE}) {
            CHECK.due("day(" + p + ", 1)", x.day(p, 1), YardPump.BAD);
        }
        for (int n : new int[] {0, 25, -1, Integer.MIN_VALUE, Integer.MAX_VALUE}) {
            CHECK.due("day(1, " + n + ")", x.day(1, n), YardPump.BAD);
            CHECK.due("pace(" + n + ")", x.pace(n), YardPump.BAD);
            CHECK.due("two(1, 1, " + n + ", 0)", x.two(1, 1, n, 0), YardPump.BAD);
            CHECK.due("rests(" + n + ", 0)", x.rests(n, 0), YardPump.BAD);
        }
        for (int p : new int[] {10, -1, Integer.MIN_VALUE, Integer.MAX_VALUE}) {
            CHECK.due("two(" + p + ", 1, 1, 0)", x.two(p, 1, 1, 0), YardPump.BAD);
            CHECK.due("two(1, " + p + ", 1, 0)", x.two(1, p, 1, 0), YardPump.BAD);
        }
        for (int what : new int[] {2, -1}) {
            CHECK.due("two(1, 1, 1, " + what + ")", x.two(1, 1, 1, what), YardPump.BAD);
            CHECK.due("rests(1, " + what + ")", x.rests(1, what), YardPump.BAD);
        }
    }
}
