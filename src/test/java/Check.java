/** What the tests share: telling what is due, and typing whole texts. */
final class Check {
    private int wrong;
    private int asked;
    private String part = "";

    void part(String name) {
        part = name;
    }

    void due(String call, long got, long want) {
        asked++;
        if (got == want) return;
        wrong++;
        if (wrong <= 40) System.out.println(part + ": " + call + " answered " + got + ", due is " + want);
    }

    void yes(String what, boolean holds) {
        due(what, holds ? 1 : 0, 1);
    }

    int asked() {
        return asked;
    }

    boolean anyWrong() {
        return wrong > 0;
    }

    /** Types a text, a byte a call; answers how many bytes there are then. */
    static int write(YardPump x, String text) {
        int have = x.count(3);
        for (int i = 0; i < text.length(); i++) have = x.type(text.charAt(i), 1);
        return have;
    }

    /** A new pump that is told by a text. */
    static YardPump told(String text) {
        YardPump x = new YardPump();
        write(x, text);
        x.pump();
        return x;
    }

    void end(String name) {
        System.out.println(name + ": " + asked + " answers looked at, " + wrong + " not as due");
        if (wrong > 0) System.exit(1);
    }
}
