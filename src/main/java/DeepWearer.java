import java.util.Arrays;

/** Pockets as deep as who wears them; DOC.md's promises tell what every call answers. */
public final class DeepWearer {
    public static final int NONE = -1, BAD = -2, STATE = -3, FULL = -4;
    public static final long NO = Long.MIN_VALUE;

    private static final int NOTHING = -11, CAST = -12, PLACE = -13, SIZE = -14;
    // One number tells all of these in the document: it is OUT, not by then, none, there are fewer.
    private static final int OUT = -5;
    // PULL and SINKS may be -1 themselves, so of() has a NONE of its own.
    private static final int NONE_OF = -1001;
    private static final int FAULT_FIRST = -10;

    private static final int LIGHT = 1, DEEP = 2, FELT = 3, RATTLE = 4, WIDOW = 5, TOLD = 6;
    private static final int[] KIND_ABOVE = {-1, 0, 0, 0, 1, 2, 3};

    private static final int WEARERS_MOST = 5, THINGS_MOST = 6, TOWNS_MOST = 6, TEXT_MOST = 100;
    private static final int SEEN_MOST = 5, WEEK_MOST = 10, BOOK_MOST = 8;
    private static final int DIGIT_LAST = 9, THOUGHT_LAST = 99, LOW_LAST = 999, DAY_LAST = 9999;
    private static final int DAYS_AHEAD = 60, SEEN_AHEAD = 20, BEST_AHEAD = 20, LAY_LAST = 40;
    private static final int ROW_PARTS = 4;

    private static final int WEEK_DAY = 0, WEEK_GONE = 1, WEEK_OUT = 2, WEEK_THOUGHT = 3;
    private static final int GROPES = 0, THINKS = 1, TELLS = 2;
    private static final int TRACE_MOST = 20;

    private static final int TAPES = 6, TAPE_MOST = 60, JUDGED_SHORT = 100;
    private static final int NO_SORT = -1, BYTES = 0, SHORTS = 1, INTS = 2, LONGS = 3, BOOLEANS = 4;

    private final Town[] towns = new Town[TOWNS_MOST];
    private int townsRead = 0;
    private final Reader reader = new Reader();

    private final World now;
    private final World imaged;
    private final World trial;
    private boolean isImaged = false;

    private final Turns turns = new Turns();
    private final int[] bodies = new int[TRACE_MOST];
    private int bodiesRun = 0;
    private final Tape[] tapes = new Tape[TAPES];

    public DeepWearer() {
        Town noTown = new Town();
        now = new World(noTown);
        imaged = new World(noTown);
        trial = new World(noTown);
        for (int n = 0; n < TOWNS_MOST; n++) {
            towns[n] = new Town();
        }
        for (int n = 0; n < TAPES; n++) {
            tapes[n] = new Tape();
        }
    }

    // ---- wearers, things, towns

    public int wearer(int kind, int v, int thought) {
        if (!isUpTo(kind, TOLD)) {
            return NONE;
        }
        if (!isUpTo(v, DIGIT_LAST) || !isUpTo(thought, THOUGHT_LAST)) {
            return BAD;
        }
        if (now.wearers >= WEARERS_MOST) {
            return FULL;
        }
        return now.addWearer(kind, v, thought);
    }

    public int thing(int weight, int wearer) {
        if (!now.isWearer(wearer)) {
            return NONE;
        }
        if (!isUpTo(weight, DIGIT_LAST)) {
            return BAD;
        }
        if (now.things >= THINGS_MOST) {
            return FULL;
        }
        return now.addThing(weight, wearer);
    }

    public int of(int wearer, int what) {
        if (!now.isWearer(wearer)) {
            return NONE_OF;
        }
        switch (what) {
            case 0:
                return now.kind[wearer];
            case 1:
                return now.v[wearer];
            case 2:
                return now.thought[wearer];
            case 3:
                return now.gone[wearer] ? 1 : 0;
            case 4:
                return now.floorOf(wearer);
            case 5:
                return now.armOf(wearer);
            default:
                return ofThing(wearer, what);
        }
    }

    private int ofThing(int wearer, int what) {
        if (what >= 20 && now.isThing(what - 20)) {
            int t = what - 20;
            return now.sinksOf(wearer, t, now.low[t], now.day);
        }
        if (what >= 10 && now.isThing(what - 10)) {
            int t = what - 10;
            return now.holding.pullBy(now.factsOf(wearer, t, now.low[t]));
        }
        return NONE_OF;
    }

    public int at(int thing, int what) {
        if (!now.isThing(thing)) {
            return NONE;
        }
        switch (what) {
            case 0:
                return now.weight[thing];
            case 1:
                return now.pocket[thing];
            case 2:
                return now.lowOrOut(thing);
            default:
                return NONE;
        }
    }

    public int think(int wearer, int n) {
        if (!now.isWearer(wearer)) {
            return NONE;
        }
        if (!isUpTo(n, THOUGHT_LAST)) {
            return BAD;
        }
        int before = now.thought[wearer];
        now.thought[wearer] = n;
        return before;
    }

    public int leave(int wearer, boolean is) {
        if (!now.isWearer(wearer)) {
            return NONE;
        }
        boolean before = now.gone[wearer];
        now.gone[wearer] = is;
        return before ? 1 : 0;
    }

    public int fetch(int thing) {
        if (!now.isThing(thing)) {
            return NONE;
        }
        if (now.isOut(thing)) {
            return STATE;
        }
        int lay = now.low[thing];
        if (now.armsOfAll() < lay) {
            return BAD;
        }
        now.takeOut(thing);
        return lay;
    }

    public int drop(int thing, int wearer) {
        if (!now.isThing(thing) || !now.isWearer(wearer)) {
            return NONE;
        }
        int before = now.pocket[thing];
        now.pocket[thing] = wearer;
        now.low[thing] = 0;
        return before;
    }

    public int row(int wearer, int part, int n) {
        if (!now.isWearer(wearer) || !isUpTo(part, ROW_PARTS - 1)) {
            return NONE;
        }
        if (!isUpTo(n, DIGIT_LAST)) {
            return BAD;
        }
        if (now.kind[wearer] != TOLD) {
            return STATE;
        }
        int cell = wearer * ROW_PARTS + part;
        int before = now.rows[cell];
        now.rows[cell] = n;
        return before;
    }

    public int feed(int sign) {
        if (!isUpTo(sign, 127)) {
            return BAD;
        }
        if (reader.length >= TEXT_MOST) {
            return FULL;
        }
        reader.text[reader.length] = sign;
        reader.length++;
        return reader.length;
    }

    public int town() {
        if (townsRead >= TOWNS_MOST) {
            return FULL;
        }
        Town next = towns[townsRead];
        boolean isTown = reader.readInto(next);
        reader.length = 0;
        if (!isTown) {
            return FAULT_FIRST - reader.place;
        }
        now.holding = next;
        townsRead++;
        return townsRead - 1;
    }

    public int told(int what) {
        switch (what) {
            case 0:
                return now.day;
            case 1:
                return now.holding.reach;
            case 2:
                return now.holding.tide;
            case 3:
                return now.holding.lift;
            case 4:
                return now.armsOfAll();
            case 5:
                return now.touchedBehind(0);
            default:
                return NONE;
        }
    }

    // ---- days

    public int pass(int n) {
        if (!isUpTo(n, DAYS_AHEAD)) {
            return BAD;
        }
        if (now.day + n > DAY_LAST) {
            return STATE;
        }
        now.letGo(n);
        return now.day;
    }

    public int on(int n, int what) {
        boolean isOfThing = what >= 10 && now.isThing(what - 10);
        if (what != 0 && !isOfThing) {
            return NONE;
        }
        if (!isUpTo(n, DAYS_AHEAD)) {
            return BAD;
        }
        return isOfThing ? now.lowBehind(what - 10, n) : now.touchedBehind(n);
    }

    public int when(int thing, int what) {
        if (!now.isThing(thing) || !isUpTo(what, 1)) {
            return NONE;
        }
        if (now.isOut(thing)) {
            return OUT;
        }
        int wearer = now.pocket[thing];
        int least = what == 0 ? now.armOf(wearer) + 1 : now.floorOf(wearer);
        return now.daysUntil(thing, least);
    }

    // ---- chains, orders

    public int chain(int thing) {
        if (!now.isThing(thing)) {
            return NONE;
        }
        if (now.isOut(thing)) {
            return OUT;
        }
        int found = OUT;
        int fewest = WEARERS_MOST + 1;
        // Who is GONE has an ARM of 0, so no set with one of them is of the fewest.
        for (int set = 0; set < 1 << now.wearers; set++) {
            int size = Integer.bitCount(set);
            if (size < fewest && now.armsOf(set) >= now.low[thing]) {
                found = set;
                fewest = size;
            }
        }
        return found;
    }

    public int best(int thing) {
        if (!now.isThing(thing)) {
            return NONE;
        }
        if (now.isOut(thing)) {
            return OUT;
        }
        int found = OUT;
        int highest = LOW_LAST + 1;
        for (int w = 0; w < now.wearers; w++) {
            int from = Math.min(now.low[thing], now.floorOf(w));
            int lies = now.lowFrom(w, thing, from, now.day, BEST_AHEAD);
            if (!now.gone[w] && lies < highest) {
                found = w;
                highest = lies;
            }
        }
        return found;
    }

    public int fetched(int k) {
        if (k < -1 || k >= THINGS_MOST) {
            return NONE;
        }
        turns.weigh(now);
        return k == -1 ? turns.most[0] : turns.thingAt(k);
    }

    public int deepen(int wearer, int q) {
        if (!now.isWearer(wearer)) {
            return NONE;
        }
        if (!isUpTo(q, LOW_LAST)) {
            return BAD;
        }
        for (int thought = 0; thought <= THOUGHT_LAST; thought++) {
            if (floor(now.kind[wearer], now.v[wearer], thought) >= q) {
                return thought;
            }
        }
        return OUT;
    }

    // ---- seen, odds

    public int see(int thing, int low, int n) {
        if (thing == -1) {
            return now.seen.clear();
        }
        if (!now.isThing(thing)) {
            return NONE;
        }
        if (!isUpTo(low, LOW_LAST) || !isUpTo(n, SEEN_AHEAD)) {
            return BAD;
        }
        return now.seen.add(thing, low, n);
    }

    public int lay(int thing, int what) {
        if (!now.isThing(thing) || !isUpTo(what, 1)) {
            return NONE;
        }
        int many = 0;
        int least = OUT;
        trial.copyFrom(now);
        for (int n = LAY_LAST; n >= 0 && !now.isOut(thing); n--) {
            trial.low[thing] = n;
            if (trial.isSeenSo()) {
                many++;
                least = n;
            }
        }
        return what == 0 ? many : least;
    }

    public int can(int wearer, int what) {
        if (!now.isWearer(wearer) || !isUpTo(what, 1)) {
            return NONE;
        }
        int many = 0;
        int least = OUT;
        trial.copyFrom(now);
        for (int n = DIGIT_LAST; n >= 0; n--) {
            trial.v[wearer] = n;
            if (trial.isSeenSo()) {
                many++;
                least = n;
            }
        }
        return what == 0 ? many : least;
    }

    public long odds(int n, int thing, int part) {
        if (!isUpTo(n, DAYS_AHEAD) || !now.isThing(thing) || !isUpTo(part, 1) || now.wearers == 0) {
            return NO;
        }
        int lies = now.lowBehind(thing, n);
        int within = 0;
        for (int w = 0; w < now.wearers && !now.isOut(thing); w++) {
            if (now.armsOfAll() - now.armOf(w) >= lies) {
                within++;
            }
        }
        return partOfFraction(within, now.wearers, part);
    }

    public long mean(int n, int part) {
        int many = now.thingsInPockets();
        if (!isUpTo(n, DAYS_AHEAD) || !isUpTo(part, 1) || many == 0) {
            return NO;
        }
        return partOfFraction(now.lowsBehind(n), many, part);
    }

    private static long partOfFraction(int above, int below, int part) {
        int common = commonDivisor(above, below);
        if (common == 0) {
            return NO;
        }
        return part == 0 ? above / common : below / common;
    }

    private static int commonDivisor(int a, int b) {
        // Behind a few dozen rounds any two ints are through.
        for (int round = 0; round < 100 && b != 0; round++) {
            int rest = a % b;
            a = b;
            b = rest;
        }
        return a;
    }

    // ---- weeks, books

    public int week(int what, int n) {
        if (what == -1) {
            return now.week.clear();
        }
        boolean isNobody = what == WEEK_GONE && !now.isWearer(n) || what == WEEK_OUT && !now.isThing(n);
        if (!isUpTo(what, WEEK_THOUGHT) || isNobody) {
            return NONE;
        }
        if (what == WEEK_THOUGHT && !isUpTo(n, THOUGHT_LAST)) {
            return BAD;
        }
        return now.week.add(what, n, 0);
    }

    public int ends(int what) {
        if (!isUpTo(what, 1)) {
            return NONE;
        }
        trial.copyFrom(now);
        for (int row = 0; row < now.week.size; row++) {
            trial.goes(now.week.first[row], now.week.second[row]);
        }
        return what == 0 ? trial.lowsBehind(0) : trial.thingsWithinReachOfAll();
    }

    public int book(int thing, int low) {
        if (thing == -1) {
            return now.book.clear();
        }
        if (!now.isThing(thing)) {
            return NONE;
        }
        if (!isUpTo(low, LOW_LAST)) {
            return BAD;
        }
        return now.book.add(thing, low, 0);
    }

    public int looked() {
        for (int row = 0; row < now.book.size; row++) {
            // A thing that is OUT answers -5 here, which no row of the book holds.
            if (now.lowOrOut(now.book.first[row]) != now.book.second[row]) {
                return row;
            }
        }
        return OUT;
    }

    // ---- judging, the image, acts, tapes

    public int judge(int tape, int i) {
        if (!isTape(tape)) {
            return NONE;
        }
        Tape row = tapes[tape];
        if (row.sort != NO_SORT && row.sort != SHORTS) {
            return CAST;
        }
        for (int t = 0; t < now.things; t++) {
            if (i < 0 || i >= row.length - t) {
                return JUDGED_SHORT + t;
            }
            if (row.items[i + t] != now.lowOrOut(t)) {
                return t;
            }
        }
        return OUT;
    }

    public int image() {
        imaged.copyFrom(now);
        isImaged = true;
        return now.wearers;
    }

    public int undo() {
        if (!isImaged) {
            return STATE;
        }
        now.copyFrom(imaged);
        return now.wearers;
    }

    public int act(int wearer, int act, int x) {
        bodiesRun = 0;
        if (!now.isWearer(wearer)) {
            return 0;
        }
        int kind = now.kind[wearer];
        switch (act) {
            case GROPES:
                return gropes(wearer, kind, x);
            case THINKS:
                return thinks(wearer, kind, x);
            case TELLS:
                return tells(wearer, kind, x);
            default:
                return 0;
        }
    }

    public int trace(int i) {
        return i >= 0 && i < bodiesRun && i < TRACE_MOST ? bodies[i] : NONE;
    }

    private void begin(int body) {
        if (bodiesRun < TRACE_MOST) {
            bodies[bodiesRun] = body;
        }
        bodiesRun++;
    }

    // The body of a kind, or of the next above it that has one. A body's super call names the kind
    // above its own, so each call goes up: three kinds high is the most.
    private int gropes(int wearer, int kind, int x) {
        switch (kind) {
            case DEEP:
            case WIDOW:
                begin(30);
                return gropes(wearer, KIND_ABOVE[DEEP], x * 3);
            case RATTLE:
                begin(50);
                return -gropes(wearer, KIND_ABOVE[RATTLE], x);
            case TOLD:
                begin(71);
                return gropes(wearer, KIND_ABOVE[TOLD], x) ^ now.v[wearer];
            default:
                begin(10);
                return x + wearer;
        }
    }

    private int thinks(int wearer, int kind, int x) {
        switch (kind) {
            case LIGHT:
                begin(20);
                return thinks(wearer, KIND_ABOVE[LIGHT], x) ^ 6;
            case RATTLE:
                begin(51);
                return thinks(wearer, KIND_ABOVE[RATTLE], x + 1);
            case TOLD:
                begin(70);
                return thinks(wearer, KIND_ABOVE[TOLD], x) + gropes(wearer, KIND_ABOVE[TOLD], 2);
            default:
                begin(11);
                return gropes(wearer, now.kind[wearer], x) - now.v[wearer];
        }
    }

    private int tells(int wearer, int kind, int x) {
        switch (kind) {
            case FELT:
            case TOLD:
                begin(40);
                return tells(wearer, KIND_ABOVE[FELT], x) + thinks(wearer, now.kind[wearer], 1);
            case WIDOW:
                begin(60);
                return tells(wearer, KIND_ABOVE[WIDOW], x - wearer);
            default:
                begin(12);
                return thinks(wearer, now.kind[wearer], x) * 2;
        }
    }

    public int taken(int wearer, int k) {
        if (!isUpTo(k, TOLD)) {
            return BAD;
        }
        if (!now.isWearer(wearer)) {
            return NOTHING;
        }
        int kind = now.kind[wearer];
        int above = kind;
        for (int up = 0; up < KIND_ABOVE.length && isUpTo(above, TOLD); up++) {
            if (above == k) {
                return kind;
            }
            above = KIND_ABOVE[above];
        }
        return CAST;
    }

    public int count(int what) {
        switch (what) {
            case 0:
                return now.wearers;
            case 1:
                return now.things;
            case 2:
                return townsRead;
            case 3:
                return now.seen.size;
            case 4:
                return now.week.size;
            case 5:
                return now.book.size;
            case 6:
                return reader.length;
            case 7:
                return bodiesRun;
            default:
                return BAD;
        }
    }

    public int tape(int tape, int sort, int n) {
        if (!isTape(tape)) {
            return NONE;
        }
        if (sort == NO_SORT) {
            tapes[tape].become(NO_SORT, 0);
            return 1;
        }
        if (!isUpTo(sort, BOOLEANS) || n > TAPE_MOST) {
            return BAD;
        }
        if (n < 0) {
            return SIZE;
        }
        tapes[tape].become(sort, n);
        return 1;
    }

    public int item(int tape, int i, long v) {
        if (!isTape(tape)) {
            return NONE;
        }
        Tape row = tapes[tape];
        if (row.sort == NO_SORT) {
            return NOTHING;
        }
        if (i < 0 || i >= row.length) {
            return PLACE;
        }
        row.items[i] = asItem(row.sort, v);
        return 1;
    }

    public long read(int tape, int i) {
        if (!isTape(tape) || i < 0 || i >= tapes[tape].length) {
            return NO;
        }
        return tapes[tape].items[i];
    }

    public int shift(int tape, int i, int other, int j, int n) {
        if (!isTape(tape) || !isTape(other)) {
            return NONE;
        }
        Tape from = tapes[tape];
        Tape to = tapes[other];
        if (from.sort == NO_SORT || to.sort == NO_SORT) {
            return NOTHING;
        }
        if (from.sort != to.sort) {
            return CAST;
        }
        if (n < 0 || i < 0 || j < 0 || i > from.length - n || j > to.length - n) {
            return PLACE;
        }
        System.arraycopy(from.items, i, to.items, j, n);
        return n;
    }

    private static boolean isTape(int tape) {
        return isUpTo(tape, TAPES - 1);
    }

    private static long asItem(int sort, long v) {
        switch (sort) {
            case BYTES:
                return (byte) v;
            case SHORTS:
                return (short) v;
            case INTS:
                return (int) v;
            case LONGS:
                return v;
            default:
                return v != 0 ? 1 : 0;
        }
    }

    private static boolean isUpTo(int n, int last) {
        return n >= 0 && n <= last;
    }

    private static int floor(int kind, int v, int thought) {
        switch (kind) {
            case LIGHT:
                return thought / 5;
            case RATTLE:
                return thought / 5 + v;
            case DEEP:
                return 3 * thought;
            case WIDOW:
                return 3 * thought + 10 * v;
            default:
                return thought;
        }
    }

    /** Rows of up to three numbers, told by hand one by one. */
    private static final class Rows {
        private int size = 0;
        private final int[] first;
        private final int[] second;
        private final int[] third;

        private Rows(int most) {
            first = new int[most];
            second = new int[most];
            third = new int[most];
        }

        private int clear() {
            size = 0;
            return size;
        }

        private int add(int a, int b, int c) {
            if (size >= first.length) {
                return FULL;
            }
            first[size] = a;
            second[size] = b;
            third[size] = c;
            size++;
            return size;
        }

        private void copyFrom(Rows other) {
            size = other.size;
            System.arraycopy(other.first, 0, first, 0, first.length);
            System.arraycopy(other.second, 0, second, 0, second.length);
            System.arraycopy(other.third, 0, third, 0, third.length);
        }
    }

    /** How all is: what an image holds. No thing's depth tells on another's, so each goes alone. */
    private static final class World {
        private int wearers = 0;
        private final int[] kind = new int[WEARERS_MOST];
        private final int[] v = new int[WEARERS_MOST];
        private final int[] thought = new int[WEARERS_MOST];
        private final boolean[] gone = new boolean[WEARERS_MOST];
        private final int[] rows = new int[WEARERS_MOST * ROW_PARTS];

        private int things = 0;
        private final int[] weight = new int[THINGS_MOST];
        private final int[] pocket = new int[THINGS_MOST];
        // What is OUT has 0 here, as the letter l asks.
        private final int[] low = new int[THINGS_MOST];

        private int day = 0;
        private Town holding;
        private final Rows seen = new Rows(SEEN_MOST);
        private final Rows week = new Rows(WEEK_MOST);
        private final Rows book = new Rows(BOOK_MOST);
        private final int[] facts = new int[Town.LETTERS.length()];

        private World(Town noTown) {
            holding = noTown;
        }

        private void copyFrom(World other) {
            wearers = other.wearers;
            System.arraycopy(other.kind, 0, kind, 0, kind.length);
            System.arraycopy(other.v, 0, v, 0, v.length);
            System.arraycopy(other.thought, 0, thought, 0, thought.length);
            System.arraycopy(other.gone, 0, gone, 0, gone.length);
            System.arraycopy(other.rows, 0, rows, 0, rows.length);
            things = other.things;
            System.arraycopy(other.weight, 0, weight, 0, weight.length);
            System.arraycopy(other.pocket, 0, pocket, 0, pocket.length);
            System.arraycopy(other.low, 0, low, 0, low.length);
            day = other.day;
            holding = other.holding;
            seen.copyFrom(other.seen);
            week.copyFrom(other.week);
            book.copyFrom(other.book);
        }

        private boolean isWearer(int n) {
            return n >= 0 && n < wearers;
        }

        private boolean isThing(int n) {
            return n >= 0 && n < things;
        }

        private boolean isOut(int t) {
            return pocket[t] == OUT;
        }

        private int addWearer(int newKind, int newV, int newThought) {
            int w = wearers;
            kind[w] = newKind;
            v[w] = newV;
            thought[w] = newThought;
            gone[w] = false;
            Arrays.fill(rows, w * ROW_PARTS, (w + 1) * ROW_PARTS, 0);
            wearers++;
            return w;
        }

        private int addThing(int newWeight, int w) {
            int t = things;
            weight[t] = newWeight;
            pocket[t] = w;
            low[t] = 0;
            things++;
            return t;
        }

        private void takeOut(int t) {
            pocket[t] = OUT;
            low[t] = 0;
        }

        private int floorOf(int w) {
            return floor(kind[w], v[w], thought[w]);
        }

        private int armOf(int w) {
            if (gone[w]) {
                return 0;
            }
            int arm = holding.reach + v[w];
            switch (kind[w]) {
                case LIGHT:
                case RATTLE:
                    return arm + 5;
                case WIDOW:
                    return 2 * arm;
                default:
                    return arm;
            }
        }

        private int armsOf(int set) {
            int arms = 0;
            for (int w = 0; w < wearers; w++) {
                if ((set >> w & 1) == 1) {
                    arms += armOf(w);
                }
            }
            return arms;
        }

        private int armsOfAll() {
            return armsOf(-1);
        }

        /** What a town's tests ask of a wearer and a thing, by the number of the letter. */
        private int[] factsOf(int w, int t, int lies) {
            facts[0] = w;
            facts[1] = t;
            facts[2] = kind[w];
            facts[3] = v[w];
            facts[Town.WEIGHT] = weight[t];
            facts[5] = lies / 10;
            return facts;
        }

        private int sinksOf(int w, int t, int lies, int onDay) {
            int pull = holding.pullBy(factsOf(w, t, lies));
            switch (kind[w]) {
                case LIGHT:
                case RATTLE:
                    return pull / 2;
                case FELT:
                    return Math.max(pull - 2, 0);
                case TOLD:
                    return Math.max(pull - 2, 0) + rows[w * ROW_PARTS + onDay % ROW_PARTS];
                default:
                    return pull;
            }
        }

        private int lowFrom(int w, int t, int from, int fromDay, int days) {
            int lies = from;
            int floor = floorOf(w);
            for (int onDay = fromDay; onDay < fromDay + days; onDay++) {
                lies += sinksOf(w, t, lies, onDay);
                if (holding.tide > 0 && (onDay + 1) % holding.tide == 0) {
                    lies -= holding.lift;
                }
                lies = Math.max(0, Math.min(lies, floor));
            }
            return lies;
        }

        private int lowOrOut(int t) {
            return isOut(t) ? OUT : low[t];
        }

        private int lowBehind(int t, int days) {
            return isOut(t) ? OUT : lowFrom(pocket[t], t, low[t], day, days);
        }

        /** The fewest days behind which a thing in a pocket lies at least that low. */
        private int daysUntil(int t, int least) {
            int lies = low[t];
            for (int d = 0; d <= DAYS_AHEAD; d++) {
                if (lies >= least) {
                    return d;
                }
                lies = lowFrom(pocket[t], t, lies, day + d, 1);
            }
            return OUT;
        }

        private void letGo(int days) {
            for (int t = 0; t < things; t++) {
                if (!isOut(t)) {
                    low[t] = lowFrom(pocket[t], t, low[t], day, days);
                }
            }
            day += days;
        }

        private int touchedBehind(int days) {
            int touched = 0;
            for (int t = 0; t < things; t++) {
                if (!isOut(t) && lowBehind(t, days) <= armOf(pocket[t])) {
                    touched++;
                }
            }
            return touched;
        }

        private int thingsInPockets() {
            int many = 0;
            for (int t = 0; t < things; t++) {
                many += isOut(t) ? 0 : 1;
            }
            return many;
        }

        private int lowsBehind(int days) {
            int lows = 0;
            for (int t = 0; t < things; t++) {
                lows += isOut(t) ? 0 : lowBehind(t, days);
            }
            return lows;
        }

        private int thingsWithinReachOfAll() {
            int within = 0;
            int arms = armsOfAll();
            for (int t = 0; t < things; t++) {
                if (!isOut(t) && low[t] <= arms) {
                    within++;
                }
            }
            return within;
        }

        private boolean isSeenSo() {
            for (int row = 0; row < seen.size; row++) {
                if (lowBehind(seen.first[row], seen.third[row]) != seen.second[row]) {
                    return false;
                }
            }
            return true;
        }

        /** A row of the week goes. */
        private void goes(int what, int n) {
            if (what == WEEK_DAY) {
                letGo(1);
            } else if (what == WEEK_GONE && isWearer(n)) {
                gone[n] = true;
            } else if (what == WEEK_OUT && isThing(n)) {
                takeOut(n);
            } else if (what == WEEK_THOUGHT) {
                Arrays.fill(thought, n);
            }
        }
    }

    /** In which order things are had, one a day; sets of things are bits. */
    private static final class Turns {
        private int inPockets = 0;
        private final int[] within = new int[THINGS_MOST];
        // By the set of those who had their turns: how many of the others are had at most.
        private final int[] most = new int[1 << THINGS_MOST];

        private void weigh(World world) {
            inPockets = 0;
            int arms = world.armsOfAll();
            Arrays.fill(within, 0);
            for (int t = 0; t < world.things; t++) {
                if (!world.isOut(t)) {
                    inPockets |= 1 << t;
                    for (int k = 0; k < THINGS_MOST; k++) {
                        within[k] |= world.lowBehind(t, k) <= arms ? 1 << t : 0;
                    }
                }
            }
            for (int set = inPockets; set >= 0; set--) {
                if ((set & ~inPockets) == 0) {
                    most[set] = mostBehind(set);
                }
            }
        }

        private int mostBehind(int set) {
            int found = 0;
            for (int t = 0; t < THINGS_MOST; t++) {
                if (isLeft(set, t)) {
                    found = Math.max(found, mostIfNext(set, t));
                }
            }
            return found;
        }

        private boolean isLeft(int set, int t) {
            return ((inPockets & ~set) >> t & 1) == 1;
        }

        private int mostIfNext(int set, int t) {
            int k = Integer.bitCount(set);
            return k < THINGS_MOST ? most[set | 1 << t] + (within[k] >> t & 1) : 0;
        }

        private int thingAt(int k) {
            int set = 0;
            int last = OUT;
            for (int turn = 0; turn <= k; turn++) {
                last = firstOfBest(set);
                if (last == OUT) {
                    return OUT;
                }
                set |= 1 << last;
            }
            return last;
        }

        private int firstOfBest(int set) {
            for (int t = 0; t < THINGS_MOST; t++) {
                if (isLeft(set, t) && mostIfNext(set, t) == most[set]) {
                    return t;
                }
            }
            return OUT;
        }
    }

    /** A town's clauses: its numbers, and steps that go one by one for what its sinks and floats add. */
    private static final class Town {
        private static final int TEST = 0, NOT = 1, BOTH = 2, EITHER = 3, ADD = 4;
        // The letters of tests; a letter's number is its place here.
        private static final String LETTERS = "ptkvwl";
        private static final int WEIGHT = 4;

        private int reach;
        private int tide;
        private int lift;
        private int steps;
        // No step comes of less than a byte of the text.
        private final int[] deeds = new int[TEXT_MOST];
        private final int[] letters = new int[TEXT_MOST];
        private final int[] signs = new int[TEXT_MOST];
        private final int[] numbers = new int[TEXT_MOST];

        private Town() {
            begin();
        }

        private void begin() {
            reach = 10;
            tide = 0;
            lift = 5;
            steps = 0;
        }

        private void step(int deed, int letter, int sign, int number) {
            if (steps >= TEXT_MOST) {
                return;
            }
            deeds[steps] = deed;
            letters[steps] = letter;
            signs[steps] = sign;
            numbers[steps] = number;
            steps++;
        }

        private int pullBy(int[] facts) {
            int pull = facts[WEIGHT];
            // A stack of what holds, its top the lowest bit; a dozen bits are the most.
            int stack = 0;
            for (int s = 0; s < steps; s++) {
                switch (deeds[s]) {
                    case TEST:
                        stack = stack << 1 | (holds(s, facts) ? 1 : 0);
                        break;
                    case NOT:
                        stack ^= 1;
                        break;
                    case BOTH:
                        stack = stack >> 1 & (stack | ~1);
                        break;
                    case EITHER:
                        stack = stack >> 1 | (stack & 1);
                        break;
                    default:
                        pull += (stack & 1) * numbers[s];
                        stack >>= 1;
                        break;
                }
            }
            return pull;
        }

        private boolean holds(int s, int[] facts) {
            int letter = letters[s];
            if (letter < 0 || letter >= facts.length) {
                return false;
            }
            switch (signs[s]) {
                case '<':
                    return facts[letter] < numbers[s];
                case '=':
                    return facts[letter] == numbers[s];
                default:
                    return facts[letter] > numbers[s];
            }
        }
    }

    /** THE TEXT, and how a town is read from it: place stands at the first byte that does not fit. */
    private static final class Reader {
        private static final int CLAUSES_MOST = 10, WITHIN_MOST = 4, END = -1;
        // The levels of what a clause tests: E, T and F of the document.
        private static final int EITHERS = 0, BOTHS = 1, PARTS = 2;

        private final int[] text = new int[TEXT_MOST];
        private int length = 0;
        private int place = 0;
        private int number = 0;

        private boolean readInto(Town town) {
            town.begin();
            place = 0;
            int clauses = 0;
            do {
                if (!readClause(town)) {
                    return false;
                }
                clauses++;
            } while (clauses < CLAUSES_MOST && take(';'));
            return place == length;
        }

        private int next() {
            return place < length && place < TEXT_MOST ? text[place] : END;
        }

        private boolean take(int sign) {
            if (next() != sign) {
                return false;
            }
            place++;
            return true;
        }

        private boolean takeWord(String word) {
            for (int i = 0; i < word.length(); i++) {
                if (!take(word.charAt(i))) {
                    return false;
                }
            }
            return true;
        }

        private static String wordBy(int sign) {
            switch (sign) {
                case 'f':
                    return "float ";
                case 'r':
                    return "reach ";
                case 't':
                    return "tide ";
                case 'l':
                    return "lift ";
                default:
                    // A sign that begins no word does not fit this one's first either.
                    return "sink ";
            }
        }

        private boolean readClause(Town town) {
            int word = next();
            if (!takeWord(wordBy(word)) || !readNumber()) {
                return false;
            }
            switch (word) {
                case 'r':
                    town.reach = number;
                    return true;
                case 't':
                    town.tide = number;
                    return true;
                case 'l':
                    town.lift = number;
                    return true;
                default:
                    break;
            }
            int added = word == 's' ? number : -number;
            if (!take(' ') || !readLevel(town, EITHERS, 0)) {
                return false;
            }
            town.step(Town.ADD, 0, 0, added);
            return true;
        }

        private boolean readNumber() {
            int digit = next();
            if (digit < '0' || digit > '9') {
                return false;
            }
            number = digit - '0';
            place++;
            digit = next();
            if (digit >= '0' && digit <= '9') {
                number = number * 10 + digit - '0';
                place++;
            }
            return true;
        }

        // within: how many ( and ! stand open here; it and the level, which only grow, bound the depth.
        private boolean readLevel(Town town, int level, int within) {
            if (level >= PARTS) {
                return readPart(town, within);
            }
            if (!readLevel(town, level + 1, within)) {
                return false;
            }
            int between = level == EITHERS ? '|' : '&';
            for (int more = 0; more < TEXT_MOST && take(between); more++) {
                if (!readLevel(town, level + 1, within)) {
                    return false;
                }
                town.step(level == EITHERS ? Town.EITHER : Town.BOTH, 0, 0, 0);
            }
            return true;
        }

        private boolean readPart(Town town, int within) {
            if (within < WITHIN_MOST && take('!')) {
                if (!readLevel(town, PARTS, within + 1)) {
                    return false;
                }
                town.step(Town.NOT, 0, 0, 0);
                return true;
            }
            if (within < WITHIN_MOST && take('(')) {
                return readLevel(town, EITHERS, within + 1) && take(')');
            }
            return readTest(town);
        }

        private boolean readTest(Town town) {
            int letter = next() == END ? -1 : Town.LETTERS.indexOf((char) next());
            if (letter < 0) {
                return false;
            }
            place++;
            int sign = next();
            if (sign != '<' && sign != '=' && sign != '>') {
                return false;
            }
            place++;
            if (!readNumber()) {
                return false;
            }
            town.step(Town.TEST, letter, sign, number);
            return true;
        }
    }

    /** A row of a sort, or nothing (which has no places); its items are cut to their sort as they come. */
    private static final class Tape {
        private int sort = NO_SORT;
        private int length = 0;
        private final long[] items = new long[TAPE_MOST];

        private void become(int newSort, int newLength) {
            sort = newSort;
            length = newLength;
            Arrays.fill(items, 0);
        }
    }
}
