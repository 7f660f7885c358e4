/** 'Terms', part 1: what a number of THE TEXT may be, and where a text has its FAULT. A sentence, a test. */
public final class TextBoundsTest {
    private static final Check CHECK = new Check();
    private static final int[] ELSE = {40, 10, 26, 20, 10, 0, 99, 0, 100, 0, 0};
    private static final String[] TOKENS = {
        "pump", "1", "2", ";", "well", "3", "4", "5", ";", "flap", "6", ";", "joint", "7", "8", ";",
        "leather", "9", ";", "place", "10", "11", ";"};
    private static final String[] WORDS = {"pump", "well", "flap", "joint", "leather", "place"};
    private static final String[] ITEMS = {
        "pump 1 2;", "well 3 4 5;", "flap 6;", "joint 7 8;", "leather 9;", "place 10 11;"};

    public static void main(String[] args) {
        numbers();
        threeHundredBytes();
        fullestText();
        blanks();
        onlyByte32IsBlank();
        noneNeeded();
        noItems();
        onceAtMost();
        endedBySemicolon();
        elseRow();
        everyByte();
        wordsOfLetters();
        tokenThatCantStand();
        oneToldAgain();
        numberAboveHundred();
        zeroAhead();
        endsTooEarly();
        firstOfSeveralFaults();
        CHECK.end("TextBoundsTest");
    }

    private static YardPump pumped(String text, int want) {
        YardPump x = new YardPump();
        Check.writeFast(x, text);
        CHECK.due("pump() of \"" + text + "\"", x.pump(), want);
        CHECK.due("count(3) behind \"" + text + "\"", x.count(3), want < 0 ? text.length() : 0);
        return x;
    }

    private static void allTold(YardPump x, int... want) {
        for (int i = 0; i < want.length; i++) CHECK.due("told(" + i + ")", x.told(i), want[i]);
    }

    private static void numbers() {
        number("FOOT (1 .. 99 feet)", 0, 1, 99, "pump ", " 5;");
        number("STROKE (1 .. 30 T)", 1, 1, 30, "pump 5 ", ";");
        number("WATER (1 .. 99 feet)", 2, 1, 99, "well ", " 5 5;");
        number("COMES (0 .. 99 cups)", 3, 0, 99, "well 5 ", " 5;");
        number("BROAD (1 .. 99)", 4, 1, 99, "well 5 5 ", ";");
        number("FLAP: 0 .. 99 T an HOUR", 5, 0, 99, "flap ", ";");
        number("JOINT: at a depth (1 .. 99 feet)", 6, 1, 99, "joint ", " 5;");
        number("JOINT: lets in 0 .. 30 T", 7, 0, 30, "joint 5 ", ";");
        number("LEATHER: WET at first (0 .. 100)", 8, 0, 100, "leather ", ";");
        number("PLACE: hundreds of feet up (0 .. 99)", 9, 0, 99, "place ", " 5;");
        number("PLACE: warmth (0 .. 40)", 10, 0, 40, "place 5 ", ";");
    }

    /** All numbers of three digits, and such as a machine's number would turn into one that may be. */
    private static void number(String sentence, int slot, int least, int most, String ahead, String behind) {
        CHECK.part(sentence);
        for (int v = 0; v <= 999; v++) {
            boolean may = v >= least && v <= most;
            YardPump x = pumped(ahead + v + behind, may ? 1 : -10 - ahead.length());
            CHECK.due("told(" + slot + ")", x.told(slot), may ? v : ELSE[slot]);
        }
        String[] wrong = {"-1", "00", "01", "0" + most, "65537", "2147483648", "4294967297", "9223372036854775809",
            "18446744073709551617", "10000000000000000000000000000000000000000001"};
        for (String v : wrong) {
            YardPump x = pumped(ahead + v + behind, -10 - ahead.length());
            CHECK.due("told(" + slot + ")", x.told(slot), ELSE[slot]);
        }
    }

    private static void threeHundredBytes() {
        CHECK.part("a text (300 bytes at most)");
        for (int have = 288; have <= 300; have++) {
            for (int n = 1; n <= 8; n++) {
                YardPump x = new YardPump();
                Check.writeFast(x, " ".repeat(have));
                boolean fits = have + n <= 300;
                CHECK.due("type(v, " + n + ") on " + have, x.type(0x3b3b3b3b3b3b3b3bL, n), fits ? have + n : YardPump.FULL);
                CHECK.due("count(3)", x.count(3), fits ? have + n : have);
                CHECK.due("pump()", x.pump(), fits ? -10 - have : 0);
            }
        }
    }

    private static void fullestText() {
        CHECK.part("a text of 300 bytes is read to its end");
        String all = String.join("", ITEMS);
        YardPump x = pumped(" ".repeat(300 - all.length()) + all, 6);
        allTold(x, 1, 2, 3, 4, 5, 6, 7, 8, 9, 10, 11);
        x = pumped(all + " ".repeat(300 - all.length()), 6);
        allTold(x, 1, 2, 3, 4, 5, 6, 7, 8, 9, 10, 11);
        pumped(" ".repeat(299) + "?", -309);
        pumped(" ".repeat(299) + ";", -309);
        pumped(" ".repeat(299) + "7", -309);
        pumped(" ".repeat(299) + "z", -309);
        pumped(" ".repeat(296) + "flap", -310);
        pumped(" ".repeat(294) + "flap 5", -310);
        pumped(" ".repeat(293) + "flap 5;", 1);
        pumped("flap" + "1".repeat(296), -14);
        pumped("z".repeat(300), -10);
        pumped(";".repeat(300), -10);
        pumped(" ".repeat(300), 0);
    }

    private static void blanks() {
        CHECK.part("blanks ahead of, between and behind TOKENS as may be");
        for (String gap : new String[] {" ", "  ", "         "}) {
            String text = gap + String.join(gap, TOKENS) + gap;
            allTold(pumped(text, 6), 1, 2, 3, 4, 5, 6, 7, 8, 9, 10, 11);
        }
        pumped("flap 1 2;", -17);
        pumped("fl ap 12;", -10);
    }

    private static void onlyByte32IsBlank() {
        CHECK.part("blanks (32)");
        for (char b : new char[] {0, 9, 10, 13, 31, 33, 95, 160, 255}) pumped("flap" + b + "12;", -14);
        pumped("flap 12;", 1);
    }

    private static void noneNeeded() {
        CHECK.part("none needed where TOKENS end without");
        YardPump x = pumped("place10 11;leather9;joint7 8;flap6;well3 4 5;pump1 2;", 6);
        allTold(x, 1, 2, 3, 4, 5, 6, 7, 8, 9, 10, 11);
        allTold(pumped("flap12;", 1), 40, 10, 26, 20, 10, 12);
        pumped("pump12;", -16);
        pumped("pumpwell", -10);
    }

    private static void noItems() {
        CHECK.part("ITEMS (none, too)");
        for (String text : new String[] {"", " ", "   "}) allTold(pumped(text, 0), ELSE);
    }

    private static void onceAtMost() {
        CHECK.part("ITEMS, each once at most");
        for (int first = 0; first < 6; first++) {
            String text = ITEMS[first];
            for (int k = 1; k < 6; k++) {
                text += ITEMS[(first + k) % 6];
                pumped(text, k + 1);
            }
            for (String item : ITEMS) pumped(text + item, -10 - text.length());
            pumped(ITEMS[first] + ITEMS[first], -10 - ITEMS[first].length());
        }
    }

    private static void endedBySemicolon() {
        CHECK.part("ITEMS, each ended by ;");
        for (String item : ITEMS) {
            String open = item.substring(0, item.length() - 1);
            pumped(open, -10 - open.length());
            pumped(open + " ;", 1);
            pumped(open + " flap", -10 - open.length() - 1);
            pumped(open + " 5;", -10 - open.length() - 1);
            pumped(open + ";;", -10 - open.length() - 1);
            pumped(";" + item, -10);
        }
    }

    private static void elseRow() {
        CHECK.part("else 40 10; 26 20 10; 0; 99 0; 100; 0 0");
        int[] from = {0, 2, 5, 6, 8, 9, 11};
        for (int item = 0; item < 6; item++) {
            YardPump x = new YardPump();
            Check.writeFast(x, "pump 99 30;well 99 99 99;flap 99;joint 98 30;leather 5;place 99 40;");
            CHECK.due("pump()", x.pump(), 6);
            Check.writeFast(x, ITEMS[item]);
            CHECK.due("pump() of \"" + ITEMS[item] + "\"", x.pump(), 1);
            for (int slot = 0; slot < 11; slot++) {
                boolean told = slot >= from[item] && slot < from[item + 1];
                CHECK.due("told(" + slot + ")", x.told(slot), told ? slot + 1 : ELSE[slot]);
            }
        }
    }

    private static boolean letter(int b) {
        return b >= 97 && b <= 122;
    }

    private static boolean digit(int b) {
        return b >= 48 && b <= 57;
    }

    private static void everyByte() {
        CHECK.part("FAULT: of a byte that begins none, that TOKEN's");
        for (int b = 0; b <= 255; b++) {
            String s = String.valueOf((char) b);
            pumped(s, b == 32 ? 0 : -10);
            pumped("  " + s, b == 32 ? 0 : -12);
            pumped("flap 5;" + s, b == 32 ? 1 : -17);
            pumped("flap " + s, b == 32 || digit(b) ? -16 : -15);
            pumped("flap 5" + s + ";", b == 32 || digit(b) ? 1 : b == ';' ? -17 : -16);
            pumped("flap" + s + "5;", b == 32 || digit(b) && b > 48 ? 1 : letter(b) ? -10 : -14);
        }
    }

    private static void wordsOfLetters() {
        CHECK.part("FAULT: of a word that is none of these, that TOKEN's");
        for (String word : WORDS) {
            String[] none = {word + "a", word + "z", "a" + word, "z" + word, word + word,
                word.substring(1), word.substring(0, word.length() - 1)};
            for (String w : none) pumped("  " + w + " 1 1 1;", -12);
            pumped(word + "`", -10 - word.length());
            pumped(word + "{", -10 - word.length());
            pumped(word + "A", -10 - word.length());
            pumped(word + "Z", -10 - word.length());
            pumped("`" + word, -10);
            pumped("{" + word, -10);
            pumped(Character.toUpperCase(word.charAt(0)) + word.substring(1), -10);
            for (int i = 0; i < word.length(); i++) {
                char next = (char) (word.charAt(i) == 'z' ? 'y' : word.charAt(i) + 1);
                pumped(word.substring(0, i) + next + word.substring(i + 1) + " 1 1 1;", -10);
            }
        }
    }

    /** Each token of a text that tells all, in turn another one that can't stand there. */
    private static void tokenThatCantStand() {
        CHECK.part("FAULT: the first byte of the first TOKEN that can't stand there");
        String ahead = "";
        for (int i = 0; i < TOKENS.length; i++) {
            for (String wrong : wrongOnes(TOKENS[i])) {
                String text = ahead + wrong;
                for (int k = i + 1; k < TOKENS.length; k++) text += " " + TOKENS[k];
                pumped(text, -10 - ahead.length());
            }
            ahead += TOKENS[i] + " ";
        }
        pumped(ahead, 6);
        for (String wrong : new String[] {"5", ";", "?", "pump", "place", "x"}) pumped(ahead + wrong, -10 - ahead.length());
    }

    private static String[] wrongOnes(String token) {
        if (token.equals(";")) return new String[] {"5", "0", "100", "101", "00", "?", "x", "pump", "place"};
        if (digit(token.charAt(0))) return new String[] {";", "101", "00", "01", "?", "x", "pump", "place"};
        return new String[] {";", "5", "0", "101", "?", "x", "pumps"};
    }

    private static void oneToldAgain() {
        CHECK.part("FAULT: one told again, too");
        pumped("flap 6;flap 6;", -17);
        pumped("flap 6;  flap 7;", -19);
        pumped("flap 6;flap", -17);
        pumped("flap 6;leather 5;joint 1 1;flap ?", -37);
        YardPump x = pumped("flap 6;flap 7;", -17);
        CHECK.due("told(5)", x.told(5), 0);
    }

    private static void numberAboveHundred() {
        CHECK.part("FAULT: of a NUMBER above 100, that TOKEN's");
        pumped("leather 99;", 1);
        pumped("leather 100;", 1);
        pumped("leather 101;", -18);
        pumped("leather  101;", -19);
        pumped("leather 1000;", -18);
        pumped("leather 110", -18);
        pumped("101", -10);
        pumped("flap 5;101;", -17);
    }

    private static void zeroAhead() {
        CHECK.part("FAULT: of a NUMBER with a 0 ahead of others, that TOKEN's");
        pumped("leather 0;", 1);
        pumped("leather 00;", -18);
        pumped("leather 05;", -18);
        pumped("leather 050;", -18);
        pumped("leather 0100;", -18);
        pumped("leather 000000;", -18);
        pumped("leather 50;", 1);
        pumped("leather 0 5;", -20);
    }

    /** A text that ends behind each of its tokens: at once, or with blanks. */
    private static void endsTooEarly() {
        CHECK.part("FAULT: the text's length, if it ends too early");
        String text = "";
        int items = 0;
        for (String token : TOKENS) {
            text += (text.isEmpty() ? "" : " ") + token;
            boolean whole = token.equals(";");
            if (whole) items++;
            for (String blanks : new String[] {"", " ", "     "}) {
                pumped(text + blanks, whole ? items : -10 - text.length() - blanks.length());
            }
        }
    }

    private static void firstOfSeveralFaults() {
        CHECK.part("FAULT: the first");
        pumped("flap 100; flap 01; ?", -15);
        pumped("flap 5; flap 100", -18);
        pumped("? flap", -10);
        pumped("flap 5 ; ; ?", -19);
        pumped("flap ? flap", -15);
        pumped("joint 100 31;", -16);
        pumped("joint 99 31;", -19);
    }
}
