/** A rider alone against a clock over pieces of road; ../shared/DOC.md says what each call answers. */
public final class HillRider {
    public static final int NONE = -1, BAD = -2, STATE = -3, FULL = -4;
    public static final long NO = Long.MIN_VALUE;

    private static final int NOTHING = -5, OTHER_KIND = -6;
    private static final int LAPS_NONE = -10001, LAPS_STATE = -10002;
    private static final int FAULT_BASE = -10, FAULTLESS = -1;
    private static final int MOST_BYTES = 120, MOST_CLAUSES = 14, MOST_PIECES = 8, MOST_OPEN = 5;
    private static final int MOST_ROADS = 5, MOST_WAYS = 8, MOST_ROW = 8, MOST_KEPT = 20;
    private static final int EFFORTS = 10, TOP_EFFORT = 9, STORES = 61, MOST_GEARS = 4;
    private static final int ODDS = 10, MOST_CHANCES = 256, LATEST_SURE = 9999;
    private static final int FIRST_EFFORT = 10;

    private final Scene scene = new Scene();
    private final Scene kept = new Scene();
    private final Reader reader = new Reader();
    private final Plan plan = new Plan();
    private final int[] doneEfforts = new int[MOST_PIECES];
    private final int[] chanceStores = new int[MOST_CHANCES];
    private final int[] chanceSeconds = new int[MOST_CHANCES];
    private final long[] chanceOdds = new long[MOST_CHANCES];
    private int doneSeconds;
    private int doneStore;
    private int roadsRead;
    private boolean imaged;

    public HillRider() {
    }

    // ---- roads

    public int feed(long w, int n) {
        if (n < 1 || n > 8) {
            return BAD;
        }
        if (scene.tapeSize + n > MOST_BYTES) {
            return FULL;
        }
        for (int i = n - 1; i >= 0; i--) {
            scene.addByte((int) (w >>> (8 * i)) & 255);
        }
        return scene.tapeSize;
    }

    public int road() {
        if (scene.roads >= MOST_ROADS) {
            return FULL;
        }
        int fault = reader.read(scene.tape, scene.tapeSize);
        scene.tapeSize = 0;
        if (fault != FAULTLESS) {
            return FAULT_BASE - fault;
        }
        roadsRead++;
        scene.ground.copyFrom(reader.draft);
        scene.ground.serial = roadsRead;
        scene.roads++;
        return scene.roads - 1;
    }

    public int of(int piece, int what) {
        Road ground = scene.ground;
        if (!ground.has(piece)) {
            return NONE;
        }
        switch (what) {
            case 0:
                return ground.lengths[piece];
            case 1:
                return ground.slopes[piece] + 5;
            case 2:
                return ground.winds[piece] + 5;
            case 3:
                return ground.bends[piece];
            default:
                return NONE;
        }
    }

    public int told(int what) {
        Road ground = scene.ground;
        switch (what) {
            case 0:
                return ground.pieces;
            case 1:
                return ground.bar;
            case 2:
                return ground.store;
            case 3:
                return ground.back;
            case 4:
                return ground.heat;
            default:
                return NONE;
        }
    }

    public int rides(int piece, int effort, int store, int what) {
        Road ground = scene.ground;
        if (!ground.has(piece) || what < 0 || what > 2) {
            return NONE;
        }
        if (!isEffort(effort) || !ground.holdsStore(store)) {
            return BAD;
        }
        if (what == 0) {
            return ground.speed(piece, effort, store);
        }
        if (what == 1) {
            return ground.seconds(piece, effort, store);
        }
        int behind = ground.behind(piece, effort, store);
        return behind < 0 ? NOTHING : behind;
    }

    // ---- ways

    public int way(int kind, int v) {
        if (kind < 0 || kind > 6) {
            return NONE;
        }
        if (v < 0 || v > 9) {
            return BAD;
        }
        int number = scene.wayCount;
        if (number >= MOST_WAYS) {
            return FULL;
        }
        scene.addWay(newWay(kind, number, v));
        return number;
    }

    public int line(int way, int piece, int effort) {
        Way found = scene.find(way);
        if (found == null || piece < 0 || piece >= MOST_PIECES) {
            return NONE;
        }
        if (effort != -1 && !isEffort(effort)) {
            return BAD;
        }
        if (!(found instanceof Told)) {
            return STATE;
        }
        int before = scene.lineOf(way, piece);
        scene.setLine(way, piece, effort);
        return before < 0 ? NOTHING : before;
    }

    public int takes(int way, int piece, int store) {
        Way found = scene.find(way);
        if (found == null || !scene.ground.has(piece)) {
            return NONE;
        }
        if (!scene.ground.holdsStore(store)) {
            return BAD;
        }
        plan.prepare(scene.ground);
        return effortOf(found, piece, store);
    }

    public int ride(int way, int what) {
        Way found = scene.find(way);
        if (found == null || !isRideWhat(what, 0)) {
            return NONE;
        }
        if (scene.ground.pieces == 0) {
            return STATE;
        }
        plan.prepare(scene.ground);
        go(found);
        if (what == 0) {
            return doneSeconds;
        }
        if (what == 1) {
            return doneStore;
        }
        return doneEfforts[what - FIRST_EFFORT];
    }

    // ---- the soonest

    public int soonest(int piece, int store, int what) {
        Road ground = scene.ground;
        if (!ground.has(piece) || !isRideWhat(what, piece)) {
            return NONE;
        }
        if (!ground.holdsStore(store)) {
            return BAD;
        }
        plan.prepare(ground);
        if (what == 0) {
            return plan.secondsFrom(piece, store);
        }
        if (what == 1) {
            return plan.storeFrom(piece, store);
        }
        int last = what - FIRST_EFFORT;
        int ahead = store;
        for (int k = piece; k < last; k++) {
            ahead = ground.behind(k, plan.effortAt(k, ahead), ahead);
        }
        return plan.effortAt(last, ahead);
    }

    public int price(int piece, int store) {
        if (!scene.ground.has(piece)) {
            return NONE;
        }
        if (store == 0 || !scene.ground.holdsStore(store)) {
            return BAD;
        }
        plan.prepare(scene.ground);
        return plan.secondsFrom(piece, store - 1) - plan.secondsFrom(piece, store);
    }

    public int loses(int way) {
        Way found = scene.find(way);
        if (found == null) {
            return NONE;
        }
        if (scene.ground.pieces == 0) {
            return STATE;
        }
        plan.prepare(scene.ground);
        go(found);
        return doneSeconds - plan.secondsFrom(0, scene.ground.store);
    }

    public int row(int effort) {
        if (effort == -1) {
            scene.rowSize = 0;
            return 0;
        }
        if (!isEffort(effort)) {
            return BAD;
        }
        if (scene.rowSize >= MOST_ROW) {
            return FULL;
        }
        scene.addToRow(effort);
        return scene.rowSize;
    }

    public int judged(int what) {
        if (what < 0 || what > 3) {
            return NONE;
        }
        plan.prepare(scene.ground);
        if (what == 0) {
            return firstThatCannotBe();
        }
        if (what == 1) {
            return firstEmpty();
        }
        return mostLost(what == 2);
    }

    // ---- heat, gears, wheels, laps

    public long mean(int way, int part) {
        Way found = scene.find(way);
        if (found == null || part < 0 || part > 1 || scene.ground.pieces == 0) {
            return NO;
        }
        int chances = spread(found);
        long all = 0;
        for (int i = 0; i < chances && i < MOST_CHANCES; i++) {
            all += chanceOdds[i] * chanceSeconds[i];
        }
        return fraction(all, part);
    }

    public long sure(int way, int t, int part) {
        Way found = scene.find(way);
        if (found == null || part < 0 || part > 1 || scene.ground.pieces == 0) {
            return NO;
        }
        if (t < 0 || t > LATEST_SURE) {
            return NO;
        }
        int chances = spread(found);
        long all = 0;
        for (int i = 0; i < chances && i < MOST_CHANCES; i++) {
            if (chanceSeconds[i] <= t) {
                all += chanceOdds[i];
            }
        }
        return fraction(all, part);
    }

    public int gears(int k, int what) {
        if (what < 0 || what > 1) {
            return NONE;
        }
        if (k < 1 || k > MOST_GEARS) {
            return BAD;
        }
        if (scene.ground.pieces == 0) {
            return STATE;
        }
        plan.prepare(scene.ground);
        plan.prepareGears();
        return what == 0 ? plan.gearSets[k] : plan.gearSeconds[k];
    }

    public int by(int efforts) {
        if (efforts < 0 || efforts >= 1 << EFFORTS) {
            return BAD;
        }
        if (scene.ground.pieces == 0) {
            return STATE;
        }
        plan.prepare(scene.ground);
        return plan.fewestBy(efforts | 1);
    }

    public int wheel(int way, int k, int what) {
        Way found = scene.find(way);
        if (found == null || what < 0 || what > 1) {
            return NONE;
        }
        if (k < 1 || k > MOST_PIECES) {
            return BAD;
        }
        int pieces = scene.ground.pieces;
        if (pieces == 0) {
            return STATE;
        }
        if (pieces < k) {
            return NOTHING;
        }
        plan.prepare(scene.ground);
        go(found);
        int without = doneSeconds;
        int followed = 0;
        int fewest = 0;
        for (int first = 0; first + k <= pieces; first++) {
            goFrom(found, scene.ground.store, first, first + k);
            if (first == 0 || doneSeconds < fewest) {
                followed = first;
                fewest = doneSeconds;
            }
        }
        return what == 0 ? followed : without - fewest;
    }

    public int laps(int way) {
        Way found = scene.find(way);
        if (found == null) {
            return LAPS_NONE;
        }
        if (scene.ground.pieces == 0) {
            return LAPS_STATE;
        }
        plan.prepare(scene.ground);
        go(found);
        int first = doneSeconds;
        goFrom(found, doneStore, 0, 0);
        return doneSeconds - first;
    }

    // ---- acts, the image

    public int act(int way, int act, int x) {
        scene.bodies = 0;
        Way found = scene.find(way);
        if (found == null) {
            return 0;
        }
        switch (act) {
            case 0:
                return found.goes(scene, x);
            case 1:
                return found.spends(scene, x);
            case 2:
                return found.rests(scene, x);
            default:
                return 0;
        }
    }

    public int trace(int i) {
        if (i < 0 || i >= scene.bodies || i >= MOST_KEPT) {
            return NONE;
        }
        return scene.traced[i];
    }

    public int as(int way, int k) {
        Way found = scene.find(way);
        if (found == null || k < 0 || k > 6) {
            return NONE;
        }
        return isOfKind(found, k) ? found.v : OTHER_KIND;
    }

    public int image() {
        kept.copyFrom(scene);
        imaged = true;
        return scene.wayCount;
    }

    public int undo() {
        if (!imaged) {
            return STATE;
        }
        scene.copyFrom(kept);
        return scene.wayCount;
    }

    public int count(int what) {
        switch (what) {
            case 0:
                return scene.ground.pieces;
            case 1:
                return scene.wayCount;
            case 2:
                return scene.roads;
            case 3:
                return scene.rowSize;
            case 4:
                return scene.tapeSize;
            case 5:
                return scene.bodies;
            default:
                return NONE;
        }
    }

    // ---- what the calls share

    private static boolean isEffort(int effort) {
        return effort >= 0 && effort <= TOP_EFFORT;
    }

    private boolean isRideWhat(int what, int firstPiece) {
        if (what == 0 || what == 1) {
            return true;
        }
        if (what < FIRST_EFFORT) {
            return false;
        }
        int piece = what - FIRST_EFFORT;
        return piece >= firstPiece && scene.ground.has(piece);
    }

    private static Way newWay(int kind, int number, int v) {
        switch (kind) {
            case 1:
                return new Even(number, v);
            case 2:
                return new Sloped(number, v);
            case 3:
                return new Best(number, v);
            case 4:
                return new Feel(number, v);
            case 5:
                return new Told(number, v);
            case 6:
                return new Follow(number, v);
            default:
                return new Way(number, v);
        }
    }

    private static boolean isOfKind(Way way, int kind) {
        switch (kind) {
            case 0:
                return true;
            case 1:
                return way instanceof Even;
            case 2:
                return way instanceof Sloped;
            case 3:
                return way instanceof Best;
            case 4:
                return way instanceof Feel;
            case 5:
                return way instanceof Told;
            case 6:
                return way instanceof Follow;
            default:
                return false;
        }
    }

    private int effortOf(Way way, int piece, int ahead) {
        int wanted = way.wants(scene, plan, piece, ahead);
        for (int effort = Math.min(wanted, TOP_EFFORT); effort > 0; effort--) {
            if (scene.ground.behind(piece, effort, ahead) >= 0) {
                return effort;
            }
        }
        return 0;
    }

    private void go(Way way) {
        goFrom(way, scene.ground.store, 0, 0);
    }

    /** Rides the road with a wheel on the pieces from wheelFirst on and ahead of wheelEnd. */
    private void goFrom(Way way, int store, int wheelFirst, int wheelEnd) {
        Road ground = scene.ground;
        doneSeconds = 0;
        doneStore = store;
        for (int piece = 0; piece < ground.pieces && piece < MOST_PIECES; piece++) {
            int effort = effortOf(way, piece, doneStore);
            boolean wheeled = piece >= wheelFirst && piece < wheelEnd;
            doneEfforts[piece] = effort;
            doneSeconds += ground.seconds(piece, effort, doneStore);
            doneStore = ground.behind(piece, wheeled ? Math.max(0, effort - 2) : effort, doneStore);
        }
    }

    private int countedRow() {
        return Math.min(scene.rowSize, scene.ground.pieces);
    }

    private int firstThatCannotBe() {
        int counted = countedRow();
        int store = scene.ground.store;
        for (int piece = 0; piece < counted; piece++) {
            store = scene.ground.behind(piece, scene.rowEffort(piece), store);
            if (store < 0) {
                return piece;
            }
        }
        return NOTHING;
    }

    private int firstEmpty() {
        int counted = countedRow();
        int store = scene.ground.store;
        for (int piece = 0; piece < counted && store >= 0; piece++) {
            store = scene.ground.behind(piece, scene.rowEffort(piece), store);
            if (store == 0) {
                return piece;
            }
        }
        return NOTHING;
    }

    /** The piece on which most was lost, or how much that was. */
    private int mostLost(boolean asPiece) {
        Road ground = scene.ground;
        int counted = countedRow();
        int most = 0;
        int found = NOTHING;
        int ahead = ground.store;
        for (int piece = 0; piece < counted; piece++) {
            int effort = scene.rowEffort(piece);
            int behind = ground.behind(piece, effort, ahead);
            if (behind < 0) {
                break;
            }
            int ridden = ground.seconds(piece, effort, ahead) + plan.secondsFrom(piece + 1, behind);
            int lost = ridden - plan.secondsFrom(piece, ahead);
            if (lost > most) {
                most = lost;
                found = piece;
            }
            ahead = behind;
        }
        return asPiece ? found : most;
    }

    /** Fills the chances, one for each hot or cold of each piece: how many. */
    private int spread(Way way) {
        Road ground = scene.ground;
        plan.prepare(ground);
        int chances = 1;
        chanceStores[0] = ground.store;
        chanceSeconds[0] = 0;
        chanceOdds[0] = 1;
        for (int piece = 0; piece < ground.pieces; piece++) {
            for (int i = 0; i < chances && i + chances < MOST_CHANCES; i++) {
                part(way, piece, i, i + chances);
            }
            chances *= 2;
        }
        return chances;
    }

    /** Makes of one chance ahead of the piece two behind it: the cold one in its place, the hot one beyond. */
    private void part(Way way, int piece, int cold, int hot) {
        if (cold < 0 || hot < 0 || cold >= MOST_CHANCES || hot >= MOST_CHANCES) {
            return;
        }
        Road ground = scene.ground;
        int ahead = chanceStores[cold];
        int effort = effortOf(way, piece, ahead);
        int seconds = ground.seconds(piece, effort, ahead);
        int hotStore = ahead - 2 * ground.cost(piece, effort);
        chanceStores[hot] = Math.max(0, hotStore);
        chanceSeconds[hot] = chanceSeconds[cold] + (hotStore < 0 ? 2 * seconds : seconds);
        chanceOdds[hot] = chanceOdds[cold] * ground.heat;
        chanceStores[cold] = ground.behind(piece, effort, ahead);
        chanceSeconds[cold] += seconds;
        chanceOdds[cold] *= ODDS - ground.heat;
    }

    /** A part of above by all the odds there are, in lowest terms. */
    private long fraction(long above, int part) {
        long below = 1;
        for (int piece = 0; piece < scene.ground.pieces; piece++) {
            below *= ODDS;
        }
        long divisor = commonDivisor(above, below);
        if (divisor < 1) {
            return NO;
        }
        return part == 0 ? above / divisor : below / divisor;
    }

    private static long commonDivisor(long a, long b) {
        long greater = a;
        long less = b;
        for (int i = 0; i < 1000 && less != 0; i++) {
            long rest = greater % less;
            greater = less;
            less = rest;
        }
        return greater;
    }

    /** A road as it was read, and what an effort does on its pieces. */
    private static final class Road {
        static final String LETTERS = "keswr", RELATIONS = "<=>";
        static final int NOT = 1, AND = 2, OR = 3;

        final int[] lengths = new int[MOST_PIECES];
        final int[] slopes = new int[MOST_PIECES];
        final int[] winds = new int[MOST_PIECES];
        final int[] bends = new int[10];
        final int[] easeNumbers = new int[MOST_CLAUSES];
        final int[] easeEnds = new int[MOST_CLAUSES];
        final int[] codes = new int[MOST_BYTES];
        private final int[] values = new int[5];
        int pieces;
        int eases;
        int codeCount;
        int bar;
        int store;
        int back;
        int heat;
        int serial;

        Road() {
            reset();
        }

        private void reset() {
            pieces = 0;
            eases = 0;
            codeCount = 0;
            bar = 4;
            store = 20;
            back = 5;
            heat = 0;
            serial = 0;
            for (int k = 0; k < bends.length; k++) {
                bends[k] = 99;
            }
        }

        void copyFrom(Road other) {
            copyRow(other.lengths, lengths);
            copyRow(other.slopes, slopes);
            copyRow(other.winds, winds);
            copyRow(other.bends, bends);
            copyRow(other.easeNumbers, easeNumbers);
            copyRow(other.easeEnds, easeEnds);
            copyRow(other.codes, codes);
            pieces = other.pieces;
            eases = other.eases;
            codeCount = other.codeCount;
            bar = other.bar;
            store = other.store;
            back = other.back;
            heat = other.heat;
            serial = other.serial;
        }

        boolean has(int piece) {
            return piece >= 0 && piece < pieces && piece < MOST_PIECES;
        }

        boolean holdsStore(int amount) {
            return amount >= 0 && amount <= store;
        }

        void addPiece(int length, int slopeDigit, int windDigit) {
            if (pieces >= 0 && pieces < MOST_PIECES) {
                lengths[pieces] = length;
                slopes[pieces] = slopeDigit - 5;
                winds[pieces] = windDigit - 5;
                pieces++;
            }
        }

        void setBend(int k, int n) {
            if (k >= 0 && k < bends.length) {
                bends[k] = Math.max(1, n);
            }
        }

        /** The codes that came since the ease before are this one's. */
        void addEase(int n) {
            if (eases >= 0 && eases < MOST_CLAUSES) {
                easeNumbers[eases] = n;
                easeEnds[eases] = codeCount;
                eases++;
            }
        }

        void addCode(int code) {
            if (codeCount >= 0 && codeCount < MOST_BYTES) {
                codes[codeCount] = code;
                codeCount++;
            }
        }

        /** A code's lowest two bits are 0 in a test. */
        void addTest(int letter, int relation, int number) {
            addCode(letter << 2 | relation << 5 | number << 7);
        }

        int speed(int piece, int effort, int ahead) {
            if (!has(piece)) {
                return 1;
            }
            int speed = 20 + 4 * effort - 5 * slopes[piece] - 2 * winds[piece];
            tell(piece, effort, ahead);
            int from = 0;
            for (int i = 0; i < eases && i < MOST_CLAUSES; i++) {
                if (holds(from, easeEnds[i])) {
                    speed -= easeNumbers[i];
                }
                from = easeEnds[i];
            }
            return Math.max(1, Math.min(bends[piece], speed));
        }

        int seconds(int piece, int effort, int ahead) {
            int speed = speed(piece, effort, ahead);
            if (!has(piece) || speed < 1) {
                return 0;
            }
            return (100 * lengths[piece] + speed - 1) / speed;
        }

        /** What the effort takes from the store: 0 for one that is not above the bar. */
        int cost(int piece, int effort) {
            return has(piece) ? lengths[piece] * Math.max(0, effort - bar) : 0;
        }

        /** The store behind the piece; below 0, if the effort can't be. */
        int behind(int piece, int effort, int ahead) {
            if (!has(piece)) {
                return ahead;
            }
            if (effort > bar) {
                return ahead - cost(piece, effort);
            }
            return Math.min(store, ahead + lengths[piece] * (bar - effort) * back / 10);
        }

        /** What the tests look at, by the place of their letter in LETTERS. */
        private void tell(int piece, int effort, int ahead) {
            if (!has(piece)) {
                return;
            }
            values[0] = piece;
            values[1] = effort;
            values[2] = slopes[piece] + 5;
            values[3] = winds[piece] + 5;
            values[4] = ahead;
        }

        /** The codes stand behind what they join, so one number's bits do as the stack. */
        private boolean holds(int from, int end) {
            long stack = 0;
            for (int i = from; i >= 0 && i < end && i < MOST_BYTES; i++) {
                int code = codes[i];
                switch (code & 3) {
                    case NOT:
                        stack ^= 1;
                        break;
                    case AND:
                        stack = stack >> 1 & (stack | ~1L);
                        break;
                    case OR:
                        stack = stack >> 1 | stack & 1;
                        break;
                    default:
                        stack = stack << 1 | (testHolds(code) ? 1 : 0);
                        break;
                }
            }
            return (stack & 1) == 1;
        }

        private boolean testHolds(int code) {
            int letter = code >> 2 & 7;
            int value = letter < values.length ? values[letter] : 0;
            int number = code >> 7;
            switch (code >> 5 & 3) {
                case 0:
                    return value < number;
                case 1:
                    return value == number;
                default:
                    return value > number;
            }
        }
    }

    private static void copyRow(int[] from, int[] to) {
        for (int i = 0; i < from.length && i < to.length; i++) {
            to[i] = from[i];
        }
    }

    /** Reads a tape as a road. What fails leaves the place at the byte that could not go on. */
    private static final class Reader {
        private static final int PIECE = 0, BEND = 1, EASE = 2, BAR = 3, STORE = 4, BACK = 5, HEAT = 6, WORDS = 7;
        private static final int LONGEST_WORD = 5;

        final Road draft = new Road();
        private final int[] text = new int[MOST_BYTES];
        private int size;
        private int place;

        /** The fault, or FAULTLESS: then the draft is the road. */
        int read(int[] bytes, int byteCount) {
            copyRow(bytes, text);
            size = Math.max(0, Math.min(byteCount, MOST_BYTES));
            place = 0;
            draft.reset();
            for (int i = 1; i <= MOST_CLAUSES; i++) {
                if (!clause()) {
                    return place;
                }
                if (place >= size) {
                    return draft.pieces > 0 ? FAULTLESS : size;
                }
                if (i == MOST_CLAUSES || !sign(';')) {
                    return place;
                }
            }
            return place;
        }

        private int next() {
            return place >= 0 && place < size && place < MOST_BYTES ? text[place] : -1;
        }

        private boolean sign(char wanted) {
            if (next() != wanted) {
                return false;
            }
            place++;
            return true;
        }

        /** The index of the next byte among the signs, or -1. */
        private int oneOf(String signs) {
            int byteHere = next();
            int index = byteHere < 0 ? -1 : signs.indexOf((char) byteHere);
            if (index >= 0) {
                place++;
            }
            return index;
        }

        private int digit(int least) {
            if (place < 0 || place >= size || place >= MOST_BYTES) {
                return -1;
            }
            int value = text[place] - '0';
            if (value < least || value > 9) {
                return -1;
            }
            place++;
            return value;
        }

        private int number() {
            int first = digit(0);
            if (first <= 0) {
                return first;
            }
            int second = digit(0);
            return second < 0 ? first : 10 * first + second;
        }

        private static String wordOf(int word) {
            switch (word) {
                case PIECE:
                    return "piece";
                case BEND:
                    return "bend";
                case EASE:
                    return "ease";
                case BAR:
                    return "bar";
                case STORE:
                    return "store";
                case BACK:
                    return "back";
                default:
                    return "heat";
            }
        }

        /** Goes on as long as some word does; a ninth piece's word is none. */
        private int word() {
            int open = (1 << WORDS) - 1;
            if (draft.pieces >= MOST_PIECES) {
                open ^= 1 << PIECE;
            }
            for (int i = 0; i <= LONGEST_WORD; i++) {
                int still = 0;
                for (int word = 0; word < WORDS; word++) {
                    String spelled = wordOf(word);
                    boolean isOpen = (open >> word & 1) == 1;
                    if (isOpen && i >= spelled.length()) {
                        return word;
                    }
                    if (isOpen && spelled.charAt(i) == next()) {
                        still |= 1 << word;
                    }
                }
                if (still == 0) {
                    return -1;
                }
                open = still;
                place++;
            }
            return -1;
        }

        private boolean clause() {
            int word = word();
            if (word < 0 || !sign(' ')) {
                return false;
            }
            switch (word) {
                case PIECE:
                    return piece();
                case BEND:
                    return bend();
                case EASE:
                    return ease();
                default:
                    return setting(word);
            }
        }

        private boolean piece() {
            int length = digit(1);
            if (length < 0 || !sign(' ')) {
                return false;
            }
            int slope = digit(0);
            if (slope < 0 || !sign(' ')) {
                return false;
            }
            int wind = digit(0);
            if (wind < 0) {
                return false;
            }
            draft.addPiece(length, slope, wind);
            return true;
        }

        private boolean bend() {
            int k = digit(0);
            if (k < 0 || !sign(' ')) {
                return false;
            }
            int n = number();
            if (n < 0) {
                return false;
            }
            draft.setBend(k, n);
            return true;
        }

        private boolean ease() {
            int n = number();
            if (n < 0 || !sign(' ') || !anyOf(0)) {
                return false;
            }
            draft.addEase(n);
            return true;
        }

        private boolean setting(int word) {
            int n = number();
            if (n < 0) {
                return false;
            }
            switch (word) {
                case BAR:
                    draft.bar = Math.min(n, TOP_EFFORT);
                    break;
                case STORE:
                    draft.store = Math.min(n, STORES - 1);
                    break;
                case BACK:
                    draft.back = n;
                    break;
                default:
                    draft.heat = Math.min(n, ODDS);
                    break;
            }
            return true;
        }

        private boolean anyOf(int open) {
            if (!allOf(open)) {
                return false;
            }
            for (int i = 0; i < MOST_BYTES && sign('|'); i++) {
                if (!allOf(open)) {
                    return false;
                }
                draft.addCode(Road.OR);
            }
            return true;
        }

        private boolean allOf(int open) {
            if (!factor(open)) {
                return false;
            }
            for (int i = 0; i < MOST_BYTES && sign('&'); i++) {
                if (!factor(open)) {
                    return false;
                }
                draft.addCode(Road.AND);
            }
            return true;
        }

        /** What is open is a ! ahead of this or a ( around it. */
        private boolean factor(int open) {
            int byteHere = next();
            if (byteHere != '!' && byteHere != '(') {
                return test();
            }
            if (open >= MOST_OPEN) {
                return false;
            }
            place++;
            if (byteHere == '(') {
                return anyOf(open + 1) && sign(')');
            }
            return denied(open + 1);
        }

        private boolean denied(int open) {
            if (!factor(open)) {
                return false;
            }
            draft.addCode(Road.NOT);
            return true;
        }

        private boolean test() {
            int letter = oneOf(Road.LETTERS);
            int relation = letter < 0 ? -1 : oneOf(Road.RELATIONS);
            int n = relation < 0 ? -1 : number();
            if (n < 0) {
                return false;
            }
            draft.addTest(letter, relation, n);
            return true;
        }
    }

    /** All that an image keeps, and the trace, which it does not keep. */
    private static final class Scene {
        final int[] tape = new int[MOST_BYTES];
        final Road ground = new Road();
        final Way[] ways = new Way[MOST_WAYS];
        final int[] lines = new int[MOST_WAYS * MOST_PIECES];
        final int[] rowEfforts = new int[MOST_ROW];
        final int[] traced = new int[MOST_KEPT];
        int tapeSize;
        int roads;
        int wayCount;
        int rowSize;
        int bodies;

        /** The trace stays as it is. */
        void copyFrom(Scene other) {
            copyRow(other.tape, tape);
            ground.copyFrom(other.ground);
            for (int i = 0; i < MOST_WAYS; i++) {
                ways[i] = other.ways[i];
            }
            copyRow(other.lines, lines);
            copyRow(other.rowEfforts, rowEfforts);
            tapeSize = other.tapeSize;
            roads = other.roads;
            wayCount = other.wayCount;
            rowSize = other.rowSize;
        }

        void addByte(int value) {
            if (tapeSize >= 0 && tapeSize < MOST_BYTES) {
                tape[tapeSize] = value;
                tapeSize++;
            }
        }

        void addWay(Way way) {
            if (wayCount < 0 || wayCount >= MOST_WAYS) {
                return;
            }
            ways[wayCount] = way;
            for (int piece = 0; piece < MOST_PIECES; piece++) {
                setLine(wayCount, piece, -1);
            }
            wayCount++;
        }

        Way find(int way) {
            return way >= 0 && way < wayCount && way < MOST_WAYS ? ways[way] : null;
        }

        int lineOf(int way, int piece) {
            if (way < 0 || way >= MOST_WAYS || piece < 0 || piece >= MOST_PIECES) {
                return -1;
            }
            return lines[way * MOST_PIECES + piece];
        }

        void setLine(int way, int piece, int effort) {
            if (way >= 0 && way < MOST_WAYS && piece >= 0 && piece < MOST_PIECES) {
                lines[way * MOST_PIECES + piece] = effort;
            }
        }

        void addToRow(int effort) {
            if (rowSize >= 0 && rowSize < MOST_ROW) {
                rowEfforts[rowSize] = effort;
                rowSize++;
            }
        }

        int rowEffort(int place) {
            return place >= 0 && place < MOST_ROW ? rowEfforts[place] : 0;
        }

        void began(int body) {
            if (bodies >= 0 && bodies < MOST_KEPT) {
                traced[bodies] = body;
            }
            bodies++;
        }
    }

    /** The soonest from each piece with each store on, and the sets of gears, of one road. */
    private static final class Plan {
        private final int[] stepSeconds = new int[MOST_PIECES * EFFORTS * STORES];
        private final int[] stepBehind = new int[MOST_PIECES * EFFORTS * STORES];
        private final int[] soonSeconds = new int[(MOST_PIECES + 1) * STORES];
        private final int[] soonStores = new int[(MOST_PIECES + 1) * STORES];
        private final int[] soonEfforts = new int[(MOST_PIECES + 1) * STORES];
        private final int[] reached = new int[STORES];
        private final int[] reachedNext = new int[STORES];
        final int[] gearSets = new int[MOST_GEARS + 1];
        final int[] gearSeconds = new int[MOST_GEARS + 1];
        private int pieces;
        private int store;
        private int serial;
        private boolean geared;

        /** Does its work once for each road: a serial number is never given again. */
        void prepare(Road ground) {
            if (serial == ground.serial) {
                return;
            }
            serial = ground.serial;
            geared = false;
            pieces = Math.min(ground.pieces, MOST_PIECES);
            store = Math.min(ground.store, STORES - 1);
            for (int ahead = 0; ahead <= store; ahead++) {
                soonSeconds[spot(pieces, ahead)] = 0;
                soonStores[spot(pieces, ahead)] = ahead;
            }
            for (int piece = pieces - 1; piece >= 0; piece--) {
                for (int ahead = 0; ahead <= store; ahead++) {
                    fill(ground, piece, ahead);
                }
            }
        }

        int secondsFrom(int piece, int ahead) {
            return soonSeconds[spot(piece, ahead)];
        }

        int storeFrom(int piece, int ahead) {
            return soonStores[spot(piece, ahead)];
        }

        int effortAt(int piece, int ahead) {
            return soonEfforts[spot(piece, ahead)];
        }

        /** Always a place in the rows of the soonest. */
        private static int spot(int piece, int ahead) {
            if (piece < 0 || piece > MOST_PIECES || ahead < 0 || ahead >= STORES) {
                return 0;
            }
            return piece * STORES + ahead;
        }

        /** Always a place in the rows of the steps. */
        private static int step(int piece, int effort, int ahead) {
            if (piece < 0 || piece >= MOST_PIECES || effort < 0 || effort > TOP_EFFORT || ahead < 0 || ahead >= STORES) {
                return 0;
            }
            return (piece * EFFORTS + effort) * STORES + ahead;
        }

        /** Efforts come from the least on, so of equal ones the first as a row stays. */
        private void fill(Road ground, int piece, int ahead) {
            int here = spot(piece, ahead);
            for (int effort = 0; effort < EFFORTS; effort++) {
                int step = step(piece, effort, ahead);
                int behind = ground.behind(piece, effort, ahead);
                stepBehind[step] = behind;
                if (behind < 0) {
                    continue;
                }
                stepSeconds[step] = ground.seconds(piece, effort, ahead);
                int seconds = stepSeconds[step] + soonSeconds[spot(piece + 1, behind)];
                int end = soonStores[spot(piece + 1, behind)];
                boolean sooner = seconds < soonSeconds[here] || seconds == soonSeconds[here] && end > soonStores[here];
                if (effort == 0 || sooner) {
                    soonSeconds[here] = seconds;
                    soonStores[here] = end;
                    soonEfforts[here] = effort;
                }
            }
        }

        /** Sets come from the least on, so of equal ones the least as bits stays. */
        void prepareGears() {
            if (geared) {
                return;
            }
            geared = true;
            for (int set = 1; set < 1 << EFFORTS; set += 2) {
                int size = Integer.bitCount(set);
                if (size > MOST_GEARS) {
                    continue;
                }
                int seconds = fewestBy(set);
                for (int k = size; k <= MOST_GEARS; k++) {
                    boolean equal = seconds == gearSeconds[k] && size < Integer.bitCount(gearSets[k]);
                    if (set == 1 || seconds < gearSeconds[k] || equal) {
                        gearSets[k] = set;
                        gearSeconds[k] = seconds;
                    }
                }
            }
        }

        /** The fewest seconds from the beginning by the efforts of a set that has 0. */
        int fewestBy(int set) {
            int[] here = reached;
            int[] beyond = reachedNext;
            empty(here);
            if (store >= 0 && store < STORES) {
                here[store] = 0;
            }
            for (int piece = 0; piece < pieces; piece++) {
                empty(beyond);
                for (int effort = 0; effort < EFFORTS; effort++) {
                    if ((set >> effort & 1) == 1) {
                        spreadBy(piece, effort, here, beyond);
                    }
                }
                int[] old = here;
                here = beyond;
                beyond = old;
            }
            int fewest = -1;
            for (int end = 0; end <= store && end < STORES; end++) {
                if (here[end] >= 0 && (fewest < 0 || here[end] < fewest)) {
                    fewest = here[end];
                }
            }
            return fewest;
        }

        private static void empty(int[] stores) {
            for (int i = 0; i < stores.length; i++) {
                stores[i] = -1;
            }
        }

        /** From the fewest seconds by each store ahead of a piece to those behind it. */
        private void spreadBy(int piece, int effort, int[] here, int[] beyond) {
            for (int ahead = 0; ahead <= store && ahead < here.length; ahead++) {
                if (here[ahead] < 0) {
                    continue;
                }
                int step = step(piece, effort, ahead);
                int behind = stepBehind[step];
                if (behind < 0 || behind >= beyond.length) {
                    continue;
                }
                int seconds = here[ahead] + stepSeconds[step];
                if (beyond[behind] < 0 || seconds < beyond[behind]) {
                    beyond[behind] = seconds;
                }
            }
        }
    }

    private static class Way {
        final int number;
        final int v;

        Way(int number, int v) {
            this.number = number;
            this.v = v;
        }

        /** The effort before it is cut to what can be. */
        int wants(Scene scene, Plan plan, int piece, int ahead) {
            return scene.ground.bar;
        }

        int goes(Scene scene, int x) {
            scene.began(1);
            return x + number;
        }

        int spends(Scene scene, int x) {
            scene.began(2);
            return goes(scene, x) - v;
        }

        int rests(Scene scene, int x) {
            scene.began(3);
            return spends(scene, x) * 2;
        }
    }

    private static class Even extends Way {
        Even(int number, int v) {
            super(number, v);
        }

        int wants(Scene scene, Plan plan, int piece, int ahead) {
            return v;
        }

        int goes(Scene scene, int x) {
            scene.began(11);
            return super.goes(scene, x * 3);
        }
    }

    private static class Sloped extends Way {
        Sloped(int number, int v) {
            super(number, v);
        }

        int wants(Scene scene, Plan plan, int piece, int ahead) {
            Road ground = scene.ground;
            if (!ground.has(piece)) {
                return ground.bar;
            }
            return ground.bar + ground.slopes[piece] + (ground.winds[piece] > 0 ? 1 : 0);
        }

        int spends(Scene scene, int x) {
            scene.began(21);
            return -super.spends(scene, x);
        }
    }

    private static final class Follow extends Way {
        Follow(int number, int v) {
            super(number, v);
        }

        int wants(Scene scene, Plan plan, int piece, int ahead) {
            int wanted = super.wants(scene, plan, piece, ahead);
            return piece >= v ? wanted + 2 : wanted;
        }

        int rests(Scene scene, int x) {
            scene.began(31);
            return super.rests(scene, x) ^ 7;
        }
    }

    private static final class Best extends Even {
        Best(int number, int v) {
            super(number, v);
        }

        int wants(Scene scene, Plan plan, int piece, int ahead) {
            return plan.effortAt(piece, ahead);
        }

        int rests(Scene scene, int x) {
            scene.began(41);
            return super.rests(scene, x - 1) + goes(scene, 2);
        }
    }

    private static final class Feel extends Even {
        Feel(int number, int v) {
            super(number, v);
        }

        int wants(Scene scene, Plan plan, int piece, int ahead) {
            Road ground = scene.ground;
            boolean low = ahead * ground.pieces < ground.store * (ground.pieces - piece);
            return low ? ground.bar : v;
        }

        int goes(Scene scene, int x) {
            scene.began(51);
            return super.goes(scene, x) ^ number;
        }
    }

    private static final class Told extends Sloped {
        Told(int number, int v) {
            super(number, v);
        }

        int wants(Scene scene, Plan plan, int piece, int ahead) {
            int line = scene.lineOf(number, piece);
            return line < 0 ? super.wants(scene, plan, piece, ahead) : line;
        }

        int spends(Scene scene, int x) {
            scene.began(61);
            return super.spends(scene, x) + v;
        }
    }
}
