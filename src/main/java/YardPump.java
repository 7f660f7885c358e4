/** A yard pump that has lost its water, its well, and what is wrong with it. */
public final class YardPump {
    public static final int BAD = -1, STATE = -2, FULL = -3, NONE = -9;
    public static final int NO = -1000000;
    public static final long NEVER = -1000000000000000000L;

    /** What the numbers of the text may be, and what they are where none is told: by told()'s numbers. */
    private static final int[] LEAST_TOLD = {1, 1, 1, 0, 1, 0, 1, 0, 0, 0, 0};
    private static final int[] MOST_TOLD = {99, 30, 99, 99, 99, 99, 99, 30, 100, 99, 40};
    private static final int[] UNTOLD = {40, 10, 26, 20, 10, 0, 99, 0, 100, 0, 0};
    private static final int SLOTS = 11;

    /** The first slot of each item of the text; behind the last one, the end. */
    private static final int[] FIRST_SLOT = {0, 2, 5, 6, 8, 9, 11};
    private static final int ITEMS = 6;

    private static final int MOST_STROKES = 200;
    private static final int MOST_JUG = 99;
    private static final int MOST_HOURS = 48;
    private static final int DAY_HOURS = 24;
    private static final int PACES = 10;

    private static final int WATER = 0, BACK = 1, HISS = 2;
    private static final int TELLING_HOURS = 12;

    private static final int TROUBLES = 6, NINE = 9;
    private static final int LEATHER = 1, FLAP = 2, JOINT = 3, DEEP = 4, SUNK = 5;

    private static final int WORKS = 5;
    private static final int WORK_LEATHER = 0, WORK_FLAP = 1, WORK_JOINT = 2, WORK_FOOT = 3, WORK_WELL = 4;

    private final Text text = new Text();
    private final Yard yard = new Yard();
    private final Column column = new Column();
    private final Column[] images = {new Column(), new Column()};
    private final boolean[] kept = new boolean[2];
    private final Signs signs = new Signs();
    private final int[] chances = {1, 1, 1, 1, 1, 1};
    private final int[] costs = {10, 10, 10, 10, 10};
    private final Sand sandTried = new Sand();
    private final Years years = new Years();
    private long traced;

    // Rows and objects for what is only asked: made once, as all calls share one room.
    private final Yard other = new Yard();
    private final Column shade = new Column();
    private final int[] answers = new int[TROUBLES * NINE];
    private final int[] firstCups = new int[PACES * PACES];
    private final int[] secondCups = new int[PACES * PACES];

    public YardPump() {
        column.startEmpty(yard);
    }

    // ---- the pump

    public int type(long v, int n) {
        if (outside(n, 1, 8)) return BAD;
        return text.add(v, n);
    }

    public int clear() {
        return text.empty();
    }

    public int pump() {
        int items = text.read(other);
        if (items < 0) return items;
        text.empty();
        yard.beLike(other);
        column.startEmpty(yard);
        kept[0] = false;
        kept[1] = false;
        return items;
    }

    public int told(int what) {
        if (outside(what, 0, SLOTS - 1)) return BAD;
        return yard.get(what);
    }

    // ---- strokes

    public int strokes(int n) {
        if (outside(n, 1, MOST_STROKES)) return BAD;
        return column.pull(yard, n);
    }

    public int jug(int n) {
        if (outside(n, 1, MOST_JUG)) return BAD;
        return column.pour(n);
    }

    public int hours(int n) {
        if (outside(n, 1, MOST_HOURS)) return BAD;
        return column.stand(yard, n);
    }

    public int now(int what) {
        switch (what) {
            case 0: return column.empty;
            case 1: return column.wet;
            case 2: return column.drawn;
            case 3: return column.cups;
            case 4: return column.pulls;
            case 5: return column.hoursGone;
            case 6: return column.felt;
            case 7: return yard.depth(column.drawn);
            case 8: return yard.lift();
            case 9: return yard.gain(column.wet, yard.depth(column.drawn));
            default: return BAD;
        }
    }

    public int anew() {
        int had = column.cups;
        column.startEmpty(yard);
        return had;
    }

    public int until() {
        return noneIfZero(column.pullsToWater(yard));
    }

    public int least(int k) {
        if (outside(k, 1, MOST_STROKES)) return BAD;
        for (int cups = 0; cups <= MOST_JUG; cups++) {
            shade.beLike(column);
            shade.pour(cups);
            int pulls = shade.pullsToWater(yard);
            if (pulls > 0 && pulls <= k) return cups;
        }
        return NONE;
    }

    public int night(int n) {
        if (outside(n, 1, MOST_HOURS)) return BAD;
        shade.beLike(column);
        return shade.stand(yard, n);
    }

    // ---- troubles

    public int sign(int what, int n, int x) {
        if (!signMayBe(what, n, x)) return BAD;
        return signs.add(what, n, x);
    }

    public int unsign() {
        return signs.empty();
    }

    public int chance(int t, int v) {
        if (outside(t, 0, TROUBLES - 1) || outside(v, 0, 9)) return BAD;
        int was = chances[t];
        chances[t] = v;
        return was;
    }

    public int fitting(int t) {
        if (outside(t, 0, TROUBLES - 1)) return BAD;
        return fits(t);
    }

    public int odds(int t, int what) {
        if (outside(t, 0, TROUBLES - 1) || outside(what, 0, 1)) return BAD;
        int all = 0;
        for (int i = 0; i < TROUBLES; i++) all += chances[i] * fits(i);
        if (all == 0) return STATE;
        return (int) leastTerms(chances[t] * fits(t), all, what == 0);
    }

    public int tells() {
        int best = WATER;
        int most = -1;
        for (int what = WATER; what <= HISS; what++) {
            int worth = worthOf(what);
            if (worth > most) {
                most = worth;
                best = what;
            }
        }
        return best;
    }

    public int where(int x, int what) {
        if (outside(x, 0, MOST_STROKES) || outside(what, 0, 1)) return BAD;
        int found = NONE;
        other.beLike(yard);
        for (int feet = 1; feet <= 99; feet++) {
            other.jointFeet = feet;
            if (answer(WATER, 0) == x) {
                found = feet;
                if (what == 0) return found;
            }
        }
        return found;
    }

    // ---- days

    public int day(int p, int n) {
        if (outside(p, 1, MOST_STROKES) || outside(n, 1, DAY_HOURS)) return BAD;
        return dayCups(p, n);
    }

    public int pace(int n) {
        if (outside(n, 1, DAY_HOURS)) return BAD;
        int best = 1;
        int most = -1;
        for (int p = 1; p <= MOST_STROKES; p++) {
            int cups = dayCups(p, n);
            if (cups > most) {
                most = cups;
                best = p;
            }
        }
        return best;
    }

    public int two(int p, int q, int n, int what) {
        if (outside(p, 0, PACES - 1) || outside(q, 0, PACES - 1)) return BAD;
        if (outside(n, 1, DAY_HOURS) || outside(what, 0, 1)) return BAD;
        int first = firstOfTwo(p, q, n);
        return what == 0 ? first : shade.cups - first;
    }

    public int rests(int n, int what) {
        if (outside(n, 1, DAY_HOURS) || outside(what, 0, 1)) return BAD;
        pumpAllPairs(n);
        int many = 0;
        int first = NONE;
        for (int pair = 0; pair < PACES * PACES; pair++) {
            if (!isRest(pair)) continue;
            if (many == 0) first = pair;
            many++;
        }
        return what == 0 ? many : first;
    }

    // ---- works, sand, years

    public int cost(int w, int v) {
        if (outside(w, 0, WORKS - 1) || outside(v, 0, 99)) return BAD;
        int was = costs[w];
        costs[w] = v;
        return was;
    }

    public int choice(int m, int what) {
        if (outside(m, 0, 9999) || outside(what, 0, 1)) return BAD;
        int best = NONE;
        int least = NONE;
        for (int set = 0; set < 1 << WORKS; set++) {
            int coins = costOf(set);
            if ((best == NONE || coins < least) && cupsBehind(set) >= m) {
                best = set;
                least = coins;
            }
        }
        return what == 0 ? best : least;
    }

    public int sand(int pace, int is) {
        if (outside(pace, 1, MOST_STROKES) || outside(is, 0, 1)) return BAD;
        return sandTried.add(pace, is);
    }

    public int line(int what) {
        if (outside(what, 0, 2)) return BAD;
        int clean = sandTried.greatestClean();
        int sandy = sandTried.leastSandy();
        if (what == 0) return clean;
        if (what == 1) return sandy;
        return clean == 0 || sandy == NONE || clean < sandy ? 1 : 0;
    }

    public int year(int spring, int summer) {
        if (outside(spring, 0, 999) || outside(summer, 0, 999)) return BAD;
        return years.add(spring, summer);
    }

    public long ahead(int spring, int what) {
        if (outside(spring, 0, 999) || outside(what, 0, 3)) return NEVER;
        return years.look(spring, what);
    }

    // ---- kinds, images

    public int mark(int kind, int t) {
        if (outside(t, 0, TROUBLES - 1)) return NO;
        switch (kind) {
            case 0: return markTrouble(t);
            case 1: return markDry(t);
            case 2: return markFooted(t);
            case 3: return markAired(t);
            case 4: return markChoked(t);
            case 5: return markDeep(t);
            default: return NO;
        }
    }

    public int keep(int image) {
        if (outside(image, 0, 1)) return BAD;
        images[image].beLike(column);
        kept[image] = true;
        return column.empty;
    }

    public int back(int image) {
        if (outside(image, 0, 1)) return BAD;
        if (!kept[image]) return STATE;
        column.beLike(images[image]);
        return column.empty;
    }

    public int count(int what) {
        switch (what) {
            case 0: return signs.size;
            case 1: return sandTried.size;
            case 2: return years.size;
            case 3: return text.size;
            default: return BAD;
        }
    }

    public long trace() {
        return traced;
    }

    // ---- small helps

    private static boolean outside(int v, int least, int most) {
        return v < least || v > most;
    }

    private static int noneIfZero(int v) {
        return v == 0 ? NONE : v;
    }

    /** The upper or the lower number of a fraction whose lower one is above 0. */
    private static long leastTerms(long upper, long lower, boolean wantsUpper) {
        long divisor = greatestDivisor(Math.abs(upper), lower);
        if (divisor <= 0) return 0;
        return (wantsUpper ? upper : lower) / divisor;
    }

    private static long greatestDivisor(long a, long b) {
        long high = a;
        long low = b;
        // No two long numbers need more steps than 100.
        for (int step = 0; step < 100 && low > 0; step++) {
            long rest = high % low;
            high = low;
            low = rest;
        }
        return high;
    }

    // ---- troubles against signs

    private static boolean signMayBe(int what, int n, int x) {
        switch (what) {
            case WATER: return n == 0 && !outside(x, 0, MOST_STROKES);
            case BACK: return !outside(n, 1, DAY_HOURS) && !outside(x, 0, 999);
            case HISS: return n == 0 && !outside(x, 0, 1);
            default: return false;
        }
    }

    /** The other yard becomes this one with a trouble. */
    private void trouble(int t, int v) {
        other.beLike(yard);
        other.worsen(t, v);
    }

    /** What the other yard answers, where a sign is looked for. */
    private int answer(int what, int n) {
        switch (what) {
            case WATER:
                shade.startEmpty(other);
                return shade.pullsToWater(other);
            case BACK:
                shade.startFull();
                return shade.stand(other, n);
            default:
                return other.airAbove(other.depth(0)) > 0 ? 1 : 0;
        }
    }

    private int fits(int t) {
        int many = 0;
        for (int v = 1; v <= NINE; v++) {
            trouble(t, v);
            if (allSignsFit()) many++;
        }
        return many;
    }

    private boolean allSignsFit() {
        for (int i = 0; i < signs.size; i++) {
            if (answer(signs.whats[i], signs.hours[i]) != signs.seen[i]) return false;
        }
        return true;
    }

    private int worthOf(int what) {
        for (int i = 0; i < answers.length; i++) {
            trouble(i / NINE, i % NINE + 1);
            answers[i] = answer(what, TELLING_HOURS);
        }
        int worth = 0;
        for (int i = 0; i < answers.length; i++) {
            if (isFirstOfItsKind(i)) worth += greatestWeight(answers[i]);
        }
        return worth;
    }

    private boolean isFirstOfItsKind(int i) {
        for (int j = 0; j < i; j++) {
            if (answers[j] == answers[i]) return false;
        }
        return true;
    }

    private int greatestWeight(int given) {
        int greatest = 0;
        for (int t = 0; t < TROUBLES; t++) {
            int many = 0;
            for (int v = 0; v < NINE; v++) {
                if (answers[t * NINE + v] == given) many++;
            }
            greatest = Math.max(greatest, chances[t] * many);
        }
        return greatest;
    }

    // ---- days

    private int dayCups(int p, int n) {
        shade.startFull();
        for (int hour = 0; hour < n; hour++) {
            shade.pull(yard, p);
            shade.stand(yard, 1);
        }
        return shade.cups;
    }

    /** The cups of the one house; shade has those of both. */
    private int firstOfTwo(int p, int q, int n) {
        int first = 0;
        shade.startFull();
        for (int hour = 0; hour < n; hour++) {
            first += shade.pull(yard, 10 * p);
            shade.pull(yard, 10 * q);
            shade.stand(yard, 1);
        }
        return first;
    }

    private void pumpAllPairs(int n) {
        for (int pair = 0; pair < firstCups.length; pair++) {
            int first = firstOfTwo(pair / PACES, pair % PACES, n);
            firstCups[pair] = first;
            secondCups[pair] = shade.cups - first;
        }
    }

    private boolean isRest(int pair) {
        int p = pair / PACES;
        int q = pair % PACES;
        for (int i = 0; i < PACES; i++) {
            if (firstCups[i * PACES + q] > firstCups[pair]) return false;
            if (secondCups[p * PACES + i] > secondCups[pair]) return false;
        }
        return true;
    }

    // ---- works

    private int costOf(int set) {
        int coins = 0;
        for (int w = 0; w < WORKS; w++) {
            if ((set >> w & 1) == 1) coins += costs[w];
        }
        return coins;
    }

    private int cupsBehind(int set) {
        other.beLike(yard);
        for (int w = 0; w < WORKS; w++) {
            if ((set >> w & 1) == 1) other.mend(w);
        }
        shade.startEmpty(other);
        shade.pour(20);
        return shade.pull(other, 60);
    }

    // ---- kinds: each asks the kind above it once

    private int markTrouble(int t) {
        traced += 1;
        return chances[t];
    }

    private int markDry(int t) {
        traced += 10;
        return markTrouble(t) + column.wet;
    }

    private int markFooted(int t) {
        traced += 100;
        return markTrouble(t) - column.empty;
    }

    private int markAired(int t) {
        traced += 1000;
        return markFooted(t) * 2;
    }

    private int markChoked(int t) {
        traced += 10000;
        return markDry(t) + t;
    }

    private int markDeep(int t) {
        traced += 100000;
        return markTrouble(t) + yard.depth(column.drawn);
    }

    /** What the text tells of the pump and its well. */
    private static final class Yard {
        int foot;
        int stroke;
        int water;
        int comes;
        int broad;
        int flap;
        int jointFeet;
        int air;
        int wet;
        int hundreds;
        int warmth;

        Yard() {
            beUntold();
        }

        void beUntold() {
            for (int slot = 0; slot < SLOTS; slot++) put(slot, UNTOLD[slot]);
        }

        void beLike(Yard model) {
            for (int slot = 0; slot < SLOTS; slot++) put(slot, model.get(slot));
        }

        int get(int slot) {
            switch (slot) {
                case 0: return foot;
                case 1: return stroke;
                case 2: return water;
                case 3: return comes;
                case 4: return broad;
                case 5: return flap;
                case 6: return jointFeet;
                case 7: return air;
                case 8: return wet;
                case 9: return hundreds;
                default: return warmth;
            }
        }

        void put(int slot, int v) {
            switch (slot) {
                case 0: foot = v; break;
                case 1: stroke = v; break;
                case 2: water = v; break;
                case 3: comes = v; break;
                case 4: broad = v; break;
                case 5: flap = v; break;
                case 6: jointFeet = v; break;
                case 7: air = v; break;
                case 8: wet = v; break;
                case 9: hundreds = v; break;
                default: warmth = v; break;
            }
        }

        int depth(int drawn) {
            int lower = broad > 0 ? drawn / broad : 0;
            return 10 * water + lower;
        }

        int lift() {
            return 340 - hundreds - warmth;
        }

        /** The air that the joint lets in: none where it is under water. */
        int airAbove(int depth) {
            return 10 * jointFeet < depth ? air : 0;
        }

        int gain(int leatherWet, int depth) {
            if (depth > 10 * foot) return 0;
            return Math.max(0, stroke * leatherWet / 100 - airAbove(depth));
        }

        void worsen(int trouble, int v) {
            switch (trouble) {
                case LEATHER:
                    wet = Math.max(0, wet - 10 * v);
                    break;
                case FLAP:
                    flap = Math.min(99, flap + 10 * v);
                    break;
                case JOINT:
                    air = Math.min(30, air + 3 * v);
                    if (jointFeet == 99) jointFeet = 5;
                    break;
                case DEEP:
                    water = Math.min(99, water + 2 * v);
                    break;
                case SUNK:
                    foot = Math.max(1, foot - 4 * v);
                    break;
                default:
                    break;
            }
        }

        void mend(int work) {
            switch (work) {
                case WORK_LEATHER: wet = 100; break;
                case WORK_FLAP: flap = 0; break;
                case WORK_JOINT: air = 0; break;
                case WORK_FOOT: foot = Math.min(99, foot + 20); break;
                case WORK_WELL: comes = Math.min(99, 2 * comes); break;
                default: break;
            }
        }
    }

    /** The water in the pipe, as it is now or would be. */
    private static final class Column {
        int empty;
        int wet;
        int drawn;
        int cups;
        int pulls;
        int hoursGone;
        int felt;

        void startFull() {
            empty = 0;
            wet = 100;
            drawn = 0;
            cups = 0;
            pulls = 0;
            hoursGone = 0;
            felt = 0;
        }

        void startEmpty(Yard yard) {
            startFull();
            empty = yard.depth(0);
            wet = yard.wet;
        }

        void beLike(Column model) {
            empty = model.empty;
            wet = model.wet;
            drawn = model.drawn;
            cups = model.cups;
            pulls = model.pulls;
            hoursGone = model.hoursGone;
            felt = model.felt;
        }

        /** n strokes: the cups that come. */
        int pull(Yard yard, int n) {
            int came = 0;
            for (int i = 0; i < n; i++) {
                int before = empty;
                int more = pullOnce(yard);
                came += more;
                // A stroke that moves nothing is followed by its like alone: no need to make them all.
                if (more == 0 && empty == before) break;
            }
            pulls += n;
            return came;
        }

        private int pullOnce(Yard yard) {
            int depth = yard.depth(drawn);
            int gain = yard.gain(wet, depth);
            felt = gain > 0 ? (depth - empty) / 10 : 0;
            int tooHigh = depth - yard.lift();
            if (tooHigh > 0) {
                empty = Math.min(empty, Math.max(tooHigh, empty - gain));
                return 0;
            }
            if (gain <= empty) {
                empty -= gain;
                return 0;
            }
            int came = gain - empty;
            empty = 0;
            wet = 100;
            drawn += came;
            cups += came;
            return came;
        }

        /** The strokes by which a cup comes; 0: none does. Till then every stroke gains the same. */
        int pullsToWater(Yard yard) {
            int depth = yard.depth(drawn);
            int gain = yard.gain(wet, depth);
            if (gain <= 0 || depth > yard.lift()) return 0;
            int needed = empty / gain + 1;
            return needed <= MOST_STROKES ? needed : 0;
        }

        /** A jug: the cups that are spilt. */
        int pour(int n) {
            int spilt = Math.max(0, n - empty);
            empty = Math.max(0, empty - n);
            wet = Math.min(100, wet + 5 * n);
            return spilt;
        }

        /** n hours: how far the column's top is below the barrel then. */
        int stand(Yard yard, int n) {
            for (int i = 0; i < n; i++) standAnHour(yard);
            hoursGone += n;
            return empty;
        }

        private void standAnHour(Yard yard) {
            int depth = yard.depth(drawn);
            empty = Math.min(depth, empty + yard.flap + yard.airAbove(depth));
            if (empty > 0) wet = Math.max(0, wet - 10);
            drawn = Math.max(0, drawn - yard.comes);
            empty = Math.min(empty, yard.depth(drawn));
        }
    }

    /** The text that is typed, and its reading, token by token. */
    private static final class Text {
        private static final int END = 0, WORD = 1, NUMBER = 2, STOP = 3, WRONG = 4;

        final int[] bytes = new int[300];
        int size;
        private int at;
        private int tokenAt;
        private int token;
        private int value;
        private int itemsSeen;

        int add(long v, int n) {
            if (size + n > bytes.length) return FULL;
            for (int i = n - 1; i >= 0; i--) {
                bytes[size] = (int) (v >> 8 * i & 255);
                size++;
            }
            return size;
        }

        int empty() {
            int had = size;
            size = 0;
            return had;
        }

        /** How many items the text tells to the yard; -10 less the fault's place, where it has one. */
        int read(Yard yard) {
            at = 0;
            itemsSeen = 0;
            yard.beUntold();
            // The item behind the last can only be one told again.
            for (int items = 0; items <= ITEMS; items++) {
                nextToken();
                if (token == END) return items;
                if (!readItem(yard)) break;
            }
            return -10 - tokenAt;
        }

        private boolean readItem(Yard yard) {
            if (token != WORD || (itemsSeen >> value & 1) == 1) return false;
            int item = value;
            itemsSeen |= 1 << item;
            for (int slot = FIRST_SLOT[item]; slot < FIRST_SLOT[item + 1]; slot++) {
                nextToken();
                if (token != NUMBER || outside(value, LEAST_TOLD[slot], MOST_TOLD[slot])) return false;
                yard.put(slot, value);
            }
            nextToken();
            return token == STOP;
        }

        private void nextToken() {
            while (at < size && bytes[at] == ' ') at++;
            tokenAt = at;
            if (at >= size) {
                token = END;
            } else if (bytes[at] == ';') {
                at++;
                token = STOP;
            } else if (isDigit(bytes[at])) {
                nextNumber();
            } else if (isLetter(bytes[at])) {
                nextWord();
            } else {
                token = WRONG;
            }
        }

        private void nextNumber() {
            boolean zeroAhead = bytes[at] == '0';
            value = 0;
            while (at < size && isDigit(bytes[at])) {
                // 101 stands for all that is above 100, however long.
                value = Math.min(101, 10 * value + bytes[at] - '0');
                at++;
            }
            boolean wrong = value > 100 || zeroAhead && at - tokenAt > 1;
            token = wrong ? WRONG : NUMBER;
        }

        private void nextWord() {
            while (at < size && isLetter(bytes[at])) at++;
            token = WRONG;
            for (int item = 0; item < ITEMS; item++) {
                if (tokenIs(nameOf(item))) {
                    token = WORD;
                    value = item;
                }
            }
        }

        private boolean tokenIs(String name) {
            if (at - tokenAt != name.length()) return false;
            for (int i = 0; i < name.length(); i++) {
                if (bytes[tokenAt + i] != name.charAt(i)) return false;
            }
            return true;
        }

        private static String nameOf(int item) {
            switch (item) {
                case 0: return "pump";
                case 1: return "well";
                case 2: return "flap";
                case 3: return "joint";
                case 4: return "leather";
                default: return "place";
            }
        }

        private static boolean isDigit(int b) {
            return b >= '0' && b <= '9';
        }

        private static boolean isLetter(int b) {
            return b >= 'a' && b <= 'z';
        }
    }

    /** The signs that were seen. */
    private static final class Signs {
        final int[] whats = new int[6];
        final int[] hours = new int[6];
        final int[] seen = new int[6];
        int size;

        int add(int what, int n, int x) {
            if (size >= whats.length) return FULL;
            whats[size] = what;
            hours[size] = n;
            seen[size] = x;
            size++;
            return size;
        }

        int empty() {
            int had = size;
            size = 0;
            return had;
        }
    }

    /** The paces that were tried, with sand or without. */
    private static final class Sand {
        final int[] paces = new int[30];
        final int[] sandy = new int[30];
        int size;

        int add(int pace, int is) {
            if (size >= paces.length) return FULL;
            paces[size] = pace;
            sandy[size] = is;
            size++;
            return size;
        }

        int greatestClean() {
            int greatest = 0;
            for (int i = 0; i < size; i++) {
                if (sandy[i] == 0) greatest = Math.max(greatest, paces[i]);
            }
            return greatest;
        }

        int leastSandy() {
            int least = NONE;
            for (int i = 0; i < size; i++) {
                if (sandy[i] == 1 && (least == NONE || paces[i] < least)) least = paces[i];
            }
            return least;
        }
    }

    /** Springs and their summers, and the straight line through them. */
    private static final class Years {
        final int[] springs = new int[20];
        final int[] summers = new int[20];
        int size;

        int add(int spring, int summer) {
            if (size >= springs.length) return FULL;
            springs[size] = spring;
            summers[size] = summer;
            size++;
            return size;
        }

        long look(int spring, int what) {
            long sumX = 0;
            long sumY = 0;
            long sumXX = 0;
            long sumXY = 0;
            for (int i = 0; i < size; i++) {
                sumX += springs[i];
                sumY += summers[i];
                sumXX += springs[i] * springs[i];
                sumXY += springs[i] * summers[i];
            }
            long run = size * sumXX - sumX * sumX;
            long rise = size * sumXY - sumX * sumY;
            if (run <= 0) return NEVER;
            if (what < 2) return leastTerms(rise, run, what == 0);
            return leastTerms(sumY * run + rise * (size * spring - sumX), size * run, what == 2);
        }
    }
}
