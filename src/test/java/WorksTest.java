/** Promises 25 to 30: works and their costs, sand and paces, years. */
public final class WorksTest {
    private static final Check CHECK = new Check();
    private static final long NEVER = YardPump.NEVER;

    public static void main(String[] args) {
        costs();
        choices();
        choiceOfSeveral();
        sand();
        years();
        ahead();
        aheadRefused();
        CHECK.end("WorksTest");
    }

    private static void chosen(YardPump x, int m, int set, int coins) {
        CHECK.due("choice(" + m + ", 0)", x.choice(m, 0), set);
        CHECK.due("choice(" + m + ", 1)", x.choice(m, 1), coins);
    }

    private static void costs() {
        CHECK.part("promise 25");
        YardPump x = new YardPump();
        CHECK.due("cost(0, 99)", x.cost(0, 99), 10);
        CHECK.due("cost(0, 0)", x.cost(0, 0), 99);
        CHECK.due("cost(4, 5)", x.cost(4, 5), 10);
        int[][] bad = {{-1, 5}, {5, 5}, {0, -1}, {0, 100}, {Integer.MIN_VALUE, 0}, {Integer.MAX_VALUE, 0}};
        for (int[] b : bad) CHECK.due("cost(" + b[0] + ", " + b[1] + ")", x.cost(b[0], b[1]), YardPump.BAD);
        CHECK.due("cost(0, 1)", x.cost(0, 1), 0);
        CHECK.due("cost(4, 1)", x.cost(4, 1), 5);
    }

    private static void choices() {
        CHECK.part("promise 26");
        YardPump x = new YardPump();
        chosen(x, 0, 0, 0);
        chosen(x, 360, 0, 0);
        chosen(x, 361, -9, -9);
        chosen(x, 9999, -9, -9);
        x = Check.told("joint 5 4;leather 0;");
        x.strokes(50);
        chosen(x, 120, 0, 0);
        chosen(x, 121, 4, 10);
        chosen(x, 360, 4, 10);
        chosen(x, 361, -9, -9);
        x.cost(2, 7);
        chosen(x, 121, 4, 7);
        CHECK.due("told(7)", x.told(7), 4);
        CHECK.due("now(4)", x.now(4), 50);
        x = Check.told("joint 5 4;pump 20 10;");
        chosen(x, 0, 0, 0);
        chosen(x, 1, 8, 10);
        chosen(x, 121, 12, 20);
        x.cost(3, 0);
        chosen(x, 120, 8, 0);
        chosen(x, 121, 12, 10);
        x.cost(0, 0);
        x.cost(1, 0);
        x.cost(4, 0);
        chosen(x, 1, 8, 0);
        x = Check.told("pump 6 10;");
        chosen(x, 10, 8, 10);
        chosen(x, 11, -9, -9);
        chosen(Check.told("pump 5 10;"), 1, -9, -9);
        x = Check.told("pump 85 10;well 99 0 99;");
        chosen(x, 1, -9, -9);
        int[][] bad = {{-1, 0}, {10000, 0}, {0, -1}, {0, 2}, {Integer.MIN_VALUE, 0}, {Integer.MAX_VALUE, 0}};
        for (int[] b : bad) CHECK.due("choice(" + b[0] + ", " + b[1] + ")", x.choice(b[0], b[1]), YardPump.BAD);
    }

    /** The joint mended brings 20 cups, a deeper foot 84. */
    private static void choiceOfSeveral() {
        CHECK.part("promise 26, of several");
        YardPump x = Check.told("pump 27 10;well 26 0 1;joint 5 4;");
        chosen(x, 12, 0, 0);
        chosen(x, 13, 4, 10);
        chosen(x, 20, 4, 10);
        chosen(x, 21, 8, 10);
        chosen(x, 84, 8, 10);
        x.cost(2, 50);
        chosen(x, 20, 8, 10);
        x.cost(2, 10);
        x.cost(3, 9);
        chosen(x, 20, 8, 9);
        x.cost(3, 11);
        chosen(x, 20, 4, 10);
        chosen(x, 85, 12, 21);
    }

    private static void sand() {
        CHECK.part("promises 27, 28");
        YardPump x = new YardPump();
        int[][] bad = {{0, 0}, {201, 0}, {-1, 1}, {5, 2}, {5, -1}, {Integer.MIN_VALUE, 0}, {Integer.MAX_VALUE, 1}};
        for (int[] b : bad) CHECK.due("sand(" + b[0] + ", " + b[1] + ")", x.sand(b[0], b[1]), YardPump.BAD);
        lines(x, 0, -9, 1);
        CHECK.due("sand(200, 1)", x.sand(200, 1), 1);
        lines(x, 0, 200, 1);
        CHECK.due("sand(60, 1)", x.sand(60, 1), 2);
        CHECK.due("sand(70, 1)", x.sand(70, 1), 3);
        lines(x, 0, 60, 1);
        CHECK.due("sand(1, 0)", x.sand(1, 0), 4);
        lines(x, 1, 60, 1);
        x.sand(59, 0);
        x.sand(40, 0);
        lines(x, 59, 60, 1);
        x.sand(60, 0);
        lines(x, 60, 60, 0);
        x.sand(200, 0);
        lines(x, 200, 60, 0);
        for (int i = 9; i <= 30; i++) CHECK.due("sand number " + i, x.sand(3, 0), i);
        CHECK.due("sand, the 31st", x.sand(1, 1), YardPump.FULL);
        CHECK.due("sand, BAD ahead of FULL", x.sand(0, 1), YardPump.BAD);
        CHECK.due("count(1)", x.count(1), 30);
        lines(x, 200, 60, 0);
        CHECK.due("line(3)", x.line(3), YardPump.BAD);
        CHECK.due("line(-1)", x.line(-1), YardPump.BAD);
        x = new YardPump();
        x.sand(7, 0);
        lines(x, 7, -9, 1);
        x = new YardPump();
        x.sand(1, 0);
        x.sand(1, 1);
        lines(x, 1, 1, 0);
    }

    private static void lines(YardPump x, int clean, int sandy, int agree) {
        CHECK.due("line(0)", x.line(0), clean);
        CHECK.due("line(1)", x.line(1), sandy);
        CHECK.due("line(2)", x.line(2), agree);
    }

    private static void years() {
        CHECK.part("promise 29");
        YardPump x = new YardPump();
        int[][] bad = {{-1, 0}, {1000, 0}, {0, -1}, {0, 1000}, {Integer.MIN_VALUE, 0}, {0, Integer.MAX_VALUE}};
        for (int[] b : bad) CHECK.due("year(" + b[0] + ", " + b[1] + ")", x.year(b[0], b[1]), YardPump.BAD);
        CHECK.due("count(2)", x.count(2), 0);
        for (int i = 1; i <= 20; i++) CHECK.due("year number " + i, x.year(i == 1 ? 0 : 999, 999 % i), i);
        CHECK.due("year, the 21st", x.year(0, 0), YardPump.FULL);
        CHECK.due("year, BAD ahead of FULL", x.year(0, 1000), YardPump.BAD);
        CHECK.due("count(2)", x.count(2), 20);
    }

    private static void looks(YardPump x, int spring, long... want) {
        for (int i = 0; i < 4; i++) CHECK.due("ahead(" + spring + ", " + i + ")", x.ahead(spring, i), want[i]);
    }

    private static YardPump over(int... pairs) {
        YardPump x = new YardPump();
        for (int i = 0; i < pairs.length; i += 2) x.year(pairs[i], pairs[i + 1]);
        return x;
    }

    private static void ahead() {
        CHECK.part("promise 30");
        looks(over(0, 0, 10, 20), 5, 2, 1, 10, 1);
        looks(over(0, 10, 10, 0), 20, -1, 1, -10, 1);
        looks(over(0, 7, 10, 7), 999, 0, 1, 7, 1);
        looks(over(0, 0, 10, 0), 999, 0, 1, 0, 1);
        looks(over(0, 0, 1, 0, 2, 1), 0, 1, 2, -1, 6);
        looks(over(0, 0, 1, 0, 2, 1), 1, 1, 2, 1, 3);
        looks(over(0, 0, 1, 3, 2, 0), 999, 0, 1, 1, 1);
        looks(over(0, 0, 4, 2), 3, 1, 2, 3, 2);
        looks(over(0, 999, 999, 0, 0, 999, 999, 0), 999, -1, 1, 0, 1);
        looks(over(998, 0, 999, 999), 0, 999, 1, -997002, 1);
        YardPump x = new YardPump();
        for (int i = 0; i < 20; i++) CHECK.due("year number " + i, x.year(i, 3 * i + 1), i + 1);
        looks(x, 100, 3, 1, 301, 1);
    }

    private static void aheadRefused() {
        CHECK.part("promise 30, refused");
        looks(new YardPump(), 5, NEVER, NEVER, NEVER, NEVER);
        looks(over(5, 1), 5, NEVER, NEVER, NEVER, NEVER);
        looks(over(5, 1, 5, 9), 5, NEVER, NEVER, NEVER, NEVER);
        YardPump x = over(0, 0, 10, 20);
        int[][] bad = {{-1, 0}, {1000, 0}, {0, -1}, {0, 4}, {Integer.MIN_VALUE, 0}, {Integer.MAX_VALUE, 3}};
        for (int[] b : bad) CHECK.due("ahead(" + b[0] + ", " + b[1] + ")", x.ahead(b[0], b[1]), NEVER);
    }
}
