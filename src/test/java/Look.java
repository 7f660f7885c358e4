import java.util.ArrayList;
import java.util.List;

/** All that can be seen of a pump, in some 250 calls; the last of them change it. Two pumps that are alike look alike. */
final class Look {
    private final List<String> rows = new ArrayList<>();
    private final YardPump x;

    private Look(YardPump x) {
        this.x = x;
    }

    static List<String> at(YardPump x) {
        Look look = new Look(x);
        look.asked();
        look.chancesAndCosts();
        look.images();
        look.text();
        return look.rows;
    }

    private void see(String call, long answer) {
        rows.add(call + " = " + answer);
    }

    private void now() {
        for (int i = 0; i <= 9; i++) see("now(" + i + ")", x.now(i));
    }

    private void told() {
        for (int i = 0; i <= 10; i++) see("told(" + i + ")", x.told(i));
    }

    private void asked() {
        now();
        told();
        for (int i = 0; i <= 3; i++) see("count(" + i + ")", x.count(i));
        see("trace()", x.trace());
        see("until()", x.until());
        see("least(30)", x.least(30));
        see("night(5)", x.night(5));
        for (int t = 0; t <= 5; t++) see("fitting(" + t + ")", x.fitting(t));
        for (int t = 0; t <= 5; t++) see("odds(" + t + ", 0)", x.odds(t, 0));
        see("odds(0, 1)", x.odds(0, 1));
        see("tells()", x.tells());
        see("where(0, 0)", x.where(0, 0));
        see("where(27, 1)", x.where(27, 1));
        see("day(9, 5)", x.day(9, 5));
        see("pace(2)", x.pace(2));
        see("two(3, 4, 2, 0)", x.two(3, 4, 2, 0));
        see("rests(1, 0)", x.rests(1, 0));
        see("choice(200, 0)", x.choice(200, 0));
        see("choice(200, 1)", x.choice(200, 1));
        for (int i = 0; i <= 2; i++) see("line(" + i + ")", x.line(i));
        for (int i = 0; i <= 3; i++) see("ahead(100, " + i + ")", x.ahead(100, i));
        for (int kind = 0; kind <= 5; kind++) see("mark(" + kind + ", 2)", x.mark(kind, 2));
        see("trace() behind mark", x.trace());
    }

    private void chancesAndCosts() {
        for (int t = 0; t <= 5; t++) see("chance(" + t + ", 1)", x.chance(t, 1));
        for (int w = 0; w <= 4; w++) see("cost(" + w + ", 1)", x.cost(w, 1));
    }

    private void images() {
        see("back(0)", x.back(0));
        now();
        see("back(1)", x.back(1));
        now();
        see("strokes(3)", x.strokes(3));
        see("hours(1)", x.hours(1));
        see("jug(2)", x.jug(2));
        now();
    }

    /** Byte by byte it can't be asked: what it tells, then, and where its fault is. */
    private void text() {
        see("pump()", x.pump());
        see("count(3)", x.count(3));
        told();
        now();
        see("back(0)", x.back(0));
        see("anew()", x.anew());
        see("unsign()", x.unsign());
        see("clear()", x.clear());
    }
}
