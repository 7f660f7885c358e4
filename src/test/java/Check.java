/** What the tests share: telling what is due, and typing whole texts. */
final class Check {
    private int wrong;
    private int asked;
    private String part = "";

    void part(String name) {
        part = name;
    }

    void due(String call, long got, long want) {
        asked++;
        if (got == want) return;
        wrong++;
        if (wrong <= 40) System.out.println(part + ": " + call + " answered " + got + ", due is " + want);
    }

    void yes(String what, boolean holds) {
        due(what, holds ? 1 : 0, 1);
    }

    int asked() {
        return asked;
    }

    boolean anyWrong() {
        return wrong > 0;
    }

    /** Types a text, a byte a call; answers how many bytes there are then. */
    static int write(YardPump x, String text) {
        int have = x.count(3);
        for (int i = 0; i < text.length(); i++) have = x.type(text.charAt(i), 1);
        return have;
    }

    /** Types a text in as few calls as may be, eight bytes a call. */
    static int writeFast(YardPump x, String text) {
        int have = x.count(3);
        for (int from = 0; from < text.length(); from += 8) {
            int n = Math.min(8, text.length() - from);
            long v = 0;
            for (int i = 0; i < n; i++) v = v << 8 | text.charAt(from + i);
            have = x.type(v, n);
        }
        return have;
    }

    /** Pours until EMPTY is so much, and spills nothing. */
    static void pourTo(YardPump x, int empty) {
        for (int jug = 0; jug < 20 && x.now(0) > empty; jug++) x.jug(Math.min(99, x.now(0) - empty));
    }

    /** A new pump that is told by a text. */
    static YardPump told(String text) {
        YardPump x = new YardPump();
        write(x, text);
        x.pump();
        return x;
    }

    void end(String name) {
        System.out.println(name + ": " + asked + " answers looked at, " + wrong + " not as due");
        if (wrong > 0) System.exit(1);
    }
}
