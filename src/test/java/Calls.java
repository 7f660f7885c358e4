import java.util.ArrayList;
import java.util.List;

/** Every call that takes numbers: what each number may be, and what the call answers where one is not so. */
final class Calls {
    /** A call by its numbers. */
    interface Call {
        long on(YardPump x, int[] numbers);
    }

    /** One call: numbers that all may be, and for each of them the least and the most. */
    static final class Row {
        final String name;
        final long refusal;
        final int[] numbers, least, most;
        final Call call;

        Row(String name, long refusal, Call call, int[] numbers, int... ends) {
            this.name = name;
            this.refusal = refusal;
            this.call = call;
            this.numbers = numbers;
            least = new int[numbers.length];
            most = new int[numbers.length];
            for (int i = 0; i < numbers.length; i++) {
                least[i] = ends[2 * i];
                most[i] = ends[2 * i + 1];
            }
        }

        int[] with(int place, int v) {
            int[] changed = numbers.clone();
            changed[place] = v;
            return changed;
        }

        String told(int[] given) {
            StringBuilder s = new StringBuilder(name).append('(');
            for (int i = 0; i < given.length; i++) s.append(i > 0 ? ", " : "").append(given[i]);
            return s.append(')').toString();
        }
    }

    /** Numbers that one may not be: just beside its ends, far off, and such as fewer bits would turn into one that may be. */
    static List<Integer> beyond(int least, int most) {
        List<Integer> all = new ArrayList<>();
        int[] far = {1, 2, 10, 100, 128, 256, 1000, 32768, 65536, 1 << 24, 1 << 30};
        for (int by : far) {
            all.add(least - by);
            all.add(most + by);
        }
        for (int by = 0; by <= Math.min(most, 8); by++) {
            all.add(Integer.MIN_VALUE + by);
            all.add(Integer.MAX_VALUE - by);
        }
        for (int from : new int[] {256, 65536, 1 << 24, -256, -65536, -1 << 24}) {
            if (from > most || from + most < least) {
                all.add(from + least);
                all.add(from + most);
            }
        }
        for (int v : new int[] {-1, -2, -3, -9, -10, YardPump.NO}) if (v < least) all.add(v);
        all.removeIf(v -> v >= least && v <= most);
        return all;
    }

    static final List<Row> ALL = List.of(
        row("type", (x, a) -> x.type(0x3b3b3b3b3b3b3b3bL, a[0]), n(3), 1, 8),
        row("told", (x, a) -> x.told(a[0]), n(4), 0, 10),
        row("strokes", (x, a) -> x.strokes(a[0]), n(7), 1, 200),
        row("jug", (x, a) -> x.jug(a[0]), n(7), 1, 99),
        row("hours", (x, a) -> x.hours(a[0]), n(2), 1, 48),
        row("now", (x, a) -> x.now(a[0]), n(7), 0, 9),
        row("least", (x, a) -> x.least(a[0]), n(9), 1, 200),
        row("night", (x, a) -> x.night(a[0]), n(5), 1, 48),
        row("sign", (x, a) -> x.sign(a[0], a[1], a[2]), n(0, 0, 0), 0, 0, 0, 0, 0, 200),
        row("sign", (x, a) -> x.sign(a[0], a[1], a[2]), n(1, 12, 5), 1, 1, 1, 24, 0, 999),
        row("sign", (x, a) -> x.sign(a[0], a[1], a[2]), n(2, 0, 1), 2, 2, 0, 0, 0, 1),
        row("chance", (x, a) -> x.chance(a[0], a[1]), n(3, 5), 0, 5, 0, 9),
        row("fitting", (x, a) -> x.fitting(a[0]), n(3), 0, 5),
        row("odds", (x, a) -> x.odds(a[0], a[1]), n(3, 0), 0, 5, 0, 1),
        row("where", (x, a) -> x.where(a[0], a[1]), n(27, 1), 0, 200, 0, 1),
        row("day", (x, a) -> x.day(a[0], a[1]), n(10, 3), 1, 200, 1, 24),
        row("pace", (x, a) -> x.pace(a[0]), n(2), 1, 24),
        row("two", (x, a) -> x.two(a[0], a[1], a[2], a[3]), n(3, 4, 2, 1), 0, 9, 0, 9, 1, 24, 0, 1),
        row("rests", (x, a) -> x.rests(a[0], a[1]), n(2, 1), 1, 24, 0, 1),
        row("cost", (x, a) -> x.cost(a[0], a[1]), n(3, 44), 0, 4, 0, 99),
        row("choice", (x, a) -> x.choice(a[0], a[1]), n(100, 0), 0, 9999, 0, 1),
        row("sand", (x, a) -> x.sand(a[0], a[1]), n(60, 1), 1, 200, 0, 1),
        row("line", (x, a) -> x.line(a[0]), n(1), 0, 2),
        row("year", (x, a) -> x.year(a[0], a[1]), n(30, 40), 0, 999, 0, 999),
        new Row("ahead", YardPump.NEVER, (x, a) -> x.ahead(a[0], a[1]), n(500, 2), 0, 999, 0, 3),
        new Row("mark", YardPump.NO, (x, a) -> x.mark(a[0], a[1]), n(3, 2), 0, 5, 0, 5),
        row("keep", (x, a) -> x.keep(a[0]), n(1), 0, 1),
        row("back", (x, a) -> x.back(a[0]), n(1), 0, 1),
        row("count", (x, a) -> x.count(a[0]), n(2), 0, 3));

    private Calls() {
    }

    private static Row row(String name, Call call, int[] numbers, int... ends) {
        return new Row(name, YardPump.BAD, call, numbers, ends);
    }

    private static int[] n(int... numbers) {
        return numbers;
    }
}
