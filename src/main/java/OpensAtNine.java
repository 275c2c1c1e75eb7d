import java.util.Arrays;

/** A gate with a slot that opens for whoever has just put in, when the law tells it of all that was put in. */
public final class OpensAtNine {
    public static final int NONE = -1, BAD = -2, STATE = -3, FULL = -4;
    public static final long NO = -4611686018427387904L;

    private static final int NO_SUCH = -5, NOT_SO = -7, NOBODY = -100000, FAULTS = -100;
    private static final int NOTHING_THERE = -11, OUTSIDE = -12, UNLIKE = -13, BELOW_ZERO = -14;
    private static final int NO_WAY = -1, NO_ROW = -1;

    private static final int LEAST_NUMBER = 2, MOST_NUMBER = 20, MOST_SUM = 9999, MOST_MINUTE = 99;
    private static final int MOST_PEOPLE = 4, MOST_COINS = 7, MOST_TOLD = 30, MOST_MORE = 9;
    private static final int MOST_TEXTS = 6, TAPE_BYTES = 160, MOST_BYTE = 255, MOST_FED = 5;
    private static final int MOST_TURNS = 6, MOST_SEED = 99999, MOST_SEEDS = 40, LOTS = 14;
    private static final int SHEETS = 4, MOST_CELLS = 40, BYTES = 0, SHORTS = 1, INTS = 2, MISSING = -1;
    private static final int MOST_BROUGHT = 30, MOST_VALUE = 999, MOST_MANY_WHO = 99, BOUND = 99;

    private static final int COIN = 0, SEVEN = 1, WORN = 2, BUTTON = 3, PAIR = 4, FOREIGN = 5, ONE_INSIDE = 6;
    private static final int OPENS = 0, WORTH = 1, HASTE = 2, PARTS = 3;
    private static final int SUM = 0, REST = 1, VALUE = 2, MINUTE = 3, COINS = 4, WHO = 5, NAMES = 6;

    private static final int[] TENS = {1, 10, 100, 1000, 10000, 100000, 1000000};

    private final Coin[] purse;
    private final Text[] texts;
    private final Gate gate, image, thought;
    private final Ways ways;
    private final Turns turns;
    private final Reader reader;
    private final Sheet[] sheets;
    private int manyTexts;
    private boolean imageKept;

    public OpensAtNine() {
        Coin[] coins = new Coin[MOST_COINS];
        Text[] laws = new Text[MOST_TEXTS];
        purse = coins;
        texts = laws;
        gate = new Gate(coins, laws);
        image = new Gate(coins, laws);
        thought = new Gate(coins, laws);
        Met met = new Met();
        ways = new Ways(new Gate(coins, laws), met);
        turns = new Turns(new Gate(coins, laws), met);
        reader = new Reader();
        sheets = new Sheet[SHEETS];
        for (int s = 0; s < SHEETS; s++) sheets[s] = new Sheet();
        reader.write("opens rest = 0 ; worth 20 ; haste minute ;");
        laws[0] = reader.readText();
        manyTexts = 1;
    }

    // ---- the gate, people, the law

    public int set(int what, int v) {
        if (what < 0 || what > 2) return NONE;
        int was = count(what);
        if (what == 0) {
            if (v < LEAST_NUMBER || v > MOST_NUMBER) return BAD;
            gate.number = v;
        } else if (what == 1) {
            if (v < 0 || v > MOST_SUM) return BAD;
            gate.sum = v;
        } else {
            if (v < 0 || v > MOST_MINUTE) return BAD;
            gate.minute = v;
        }
        return was;
    }

    public int come() {
        if (gate.people >= MOST_PEOPLE) return FULL;
        gate.people++;
        return gate.people - 1;
    }

    public int stand(int p, int is) {
        if (!gate.isOne(p)) return NO_SUCH;
        if (is < 0 || is > 1) return NOT_SO;
        int was = gate.isInside(p) ? 1 : 0;
        gate.inside = gate.inside & ~(1 << p) | is << p;
        return was;
    }

    public int count(int what) {
        switch (what) {
            case 0: return gate.number;
            case 1: return gate.sum;
            case 2: return gate.minute;
            case 3: return gate.people;
            case 4: return gate.inside;
            case 5: return gate.coins;
            case 6: return manyTexts;
            case 7: return gate.law;
            case 8: return reader.size;
            default: return BAD;
        }
    }

    public int feed(int n, int a, int b, int c, int d, int e) {
        if (n < 1 || n > MOST_FED) return BAD;
        if (!isByte(a) || !isByte(b) || !isByte(c) || !isByte(d) || !isByte(e)) return BAD;
        if (reader.size + n > TAPE_BYTES) return FULL;
        reader.add(a);
        if (n > 1) reader.add(b);
        if (n > 2) reader.add(c);
        if (n > 3) reader.add(d);
        if (n > 4) reader.add(e);
        return reader.size;
    }

    private static boolean isByte(int b) {
        return b >= 0 && b <= MOST_BYTE;
    }

    public int text() {
        if (manyTexts >= MOST_TEXTS) return FULL;
        Text read = reader.readText();
        if (read == null) return FAULTS - reader.fault;
        texts[manyTexts] = read;
        manyTexts++;
        return manyTexts - 1;
    }

    public int force(int t) {
        if (t < 0 || t >= manyTexts) return BAD;
        int was = gate.law;
        gate.law = t;
        return was;
    }

    public int asks(int part, int all, int value, int when, int manyWho) {
        if (part < 0 || part >= PARTS) return BAD;
        if (all < 0 || all > MOST_SUM || value < 0 || value > MOST_VALUE) return BAD;
        if (when < 0 || when > MOST_MINUTE || manyWho < 0 || manyWho > MOST_MANY_WHO) return BAD;
        return gate.lawSays(part, all, value, when, manyWho / 10, manyWho % 10);
    }

    // ---- coins

    public int coin(int whose, int kind, int told, int more) {
        if (!gate.isOne(whose) || kind < COIN || kind > FOREIGN) return BAD;
        if (told < 0 || told > MOST_TOLD || more < 0 || more > MOST_MORE) return BAD;
        int c = gate.coins;
        if (c < 0 || c >= MOST_COINS) return FULL;
        purse[c] = new Coin(kind, told, more);
        gate.coins = c + 1;
        gate.give(c, whose);
        return c;
    }

    public int sell(int c, int whose) {
        if (gate.coinAt(c) == null) return NO_SUCH;
        if (!gate.isOne(whose)) return NOT_SO;
        if (gate.isSpent(c)) return STATE;
        int was = gate.ownerOf(c);
        gate.give(c, whose);
        return was;
    }

    public int told(int c, int what) {
        Coin coin = gate.coinAt(c);
        if (coin == null) return NO_SUCH;
        switch (what) {
            case 0: return gate.ownerOf(c);
            case 1: return coin.kind;
            case 2: return coin.told;
            case 3: return coin.more;
            case 4: return gate.isSpent(c) ? 1 : 0;
            case 5: return coin.countsBy(gate.sum);
            case 6: return coin.costs();
            default: return NOT_SO;
        }
    }

    public int put(int c) {
        if (gate.coinAt(c) == null) return NO_SUCH;
        if (!gate.mayPut(c)) return STATE;
        return gate.putIn(c) ? 1 : 0;
    }

    public int worth(int p) {
        return gate.isOne(p) ? gate.worthOf(p) : NOBODY;
    }

    // ---- ways in

    public int gang(int set, int what) {
        if (set <= 0 || set >= 1 << gate.people) return NO_SUCH;
        if (what < 0 || what > 2) return NOT_SO;
        int cost = ways.cheapest(gate, set);
        if (cost == NO_WAY || what == 0) return cost;
        return what == 1 ? digitsOf(ways.way) : ways.way;
    }

    private static int digitsOf(int way) {
        int many = 0;
        while (many < TENS.length && way >= TENS[many]) many++;
        return many;
    }

    public int spare(int p, int q) {
        if (!gate.isOne(p) || !gate.isOne(q) || p == q) return NOBODY;
        int first = ways.cheapest(gate, 1 << p);
        if (first == NO_WAY) return NO_WAY;
        thought.become(gate);
        thought.follow(ways.way);
        int second = ways.cheapest(thought, 1 << q);
        int both = ways.cheapest(gate, 1 << p | 1 << q);
        if (second == NO_WAY || both == NO_WAY) return NO_WAY;
        return first + second - both;
    }

    public int reach(int p) {
        return gate.isOne(p) ? ways.restsBy(gate, p) : NO_SUCH;
    }

    public int keys() {
        int may = gate.movable(-1), keys = 0;
        for (int c = 0; c < MOST_COINS; c++) {
            if ((may >> c & 1) == 0) continue;
            thought.become(gate);
            if (thought.putIn(c)) keys |= 1 << c;
        }
        return keys;
    }

    public int gifts() {
        int may = gate.movable(-1), gifts = 0;
        for (int c = 0; c < MOST_COINS; c++) {
            if ((may >> c & 1) != 0 && isGift(c, may)) gifts |= 1 << c;
        }
        return gifts;
    }

    private boolean isGift(int c, int may) {
        int others = may & ~gate.leftOf(gate.ownerOf(c));
        for (int d = 0; d < MOST_COINS; d++) {
            if ((others >> d & 1) == 0) continue;
            thought.become(gate);
            thought.putIn(c);
            if (thought.putIn(d)) return true;
        }
        return false;
    }

    // ---- by turns

    public int rest(int p, int steps) {
        if (!gate.isOne(p) || !areTurns(steps)) return NOBODY;
        turns.think(gate, steps);
        return turns.endOf(p);
    }

    public int moves(int steps) {
        if (!areTurns(steps) || gate.people == 0) return BAD;
        turns.think(gate, steps);
        return turns.line();
    }

    public int play(int steps) {
        if (!areTurns(steps) || gate.people == 0) return BAD;
        turns.think(gate, steps);
        int line = turns.line();
        for (int k = steps - 1; k >= 0; k--) {
            int done = line / TENS[k] % 10;
            if (done == 0) gate.waitOn();
            else gate.putIn(done - 1);
        }
        return Integer.bitCount(gate.inside);
    }

    private static boolean areTurns(int steps) {
        return steps >= 0 && steps <= MOST_TURNS;
    }

    // ---- which number

    public int which(int s, int start) {
        int refused = refusedStart(s, start);
        return refused != 0 ? refused : sheets[s].numbersBy(start);
    }

    public int next(int s, int start, int what) {
        int refused = refusedStart(s, start);
        if (refused != 0) return refused;
        if (what < 0 || what > 1) return NOT_SO;
        int numbers = sheets[s].numbersBy(start), sum = sheets[s].sumBehind(start);
        int best = 0, fewest = 0;
        for (int brought = 1; brought <= MOST_BROUGHT; brought++) {
            int left = leftAtWorst(numbers, sum + brought);
            if (best == 0 || left < fewest) {
                best = brought;
                fewest = left;
            }
        }
        return what == 0 ? best : fewest;
    }

    private static int leftAtWorst(int numbers, int sum) {
        int without = 0, with = 0;
        for (int m = LEAST_NUMBER; m <= MOST_NUMBER; m++) {
            if ((numbers >> m & 1) == 0) continue;
            if (Math.floorMod(sum, m) == 0) without++;
            else with++;
        }
        return Math.max(without, with);
    }

    private int refusedStart(int s, int start) {
        int refused = refusedRows(s);
        if (refused != 0) return refused;
        return start < 0 || start > MOST_SUM ? NOT_SO : 0;
    }

    /** 0, if a sheet tells rows of two. */
    private int refusedRows(int s) {
        if (!isSheet(s)) return BAD;
        if (sheets[s].sort == MISSING) return NOTHING_THERE;
        return sheets[s].size % 2 != 0 ? BAD : 0;
    }

    // ---- told mornings

    public int judge(int s) {
        int refused = refusedRows(s);
        return refused != 0 ? refused : firstWrong(sheets[s], gate.law, gate.number);
    }

    public int laws(int s) {
        int refused = refusedRows(s);
        if (refused != 0) return refused;
        int fit = 0;
        for (int t = 0; t < manyTexts; t++) {
            if (firstWrong(sheets[s], t, gate.number) == NO_ROW) fit |= 1 << t;
        }
        return fit;
    }

    public int numbers(int s) {
        int refused = refusedRows(s);
        if (refused != 0) return refused;
        int fit = 0;
        for (int m = LEAST_NUMBER; m <= MOST_NUMBER; m++) {
            if (firstWrong(sheets[s], gate.law, m) == NO_ROW) fit |= 1 << m;
        }
        return fit;
    }

    private int firstWrong(Sheet sheet, int law, int number) {
        thought.become(gate);
        thought.law = law;
        thought.number = number;
        for (int row = 0; row < sheet.size / 2; row++) {
            int c = sheet.at(2 * row);
            if (!thought.mayPut(c)) return row;
            int opened = thought.putIn(c) ? 1 : 0;
            if (sheet.at(2 * row + 1) != opened) return row;
        }
        return NO_ROW;
    }

    public int film(int s) {
        if (!isSheet(s)) return BAD;
        Sheet sheet = sheets[s];
        sheet.become(INTS, 2 * MOST_COINS);
        thought.become(gate);
        int rows = 0;
        for (int c = 0; c < MOST_COINS; c++) {
            if (!thought.mayPut(c)) continue;
            sheet.write(2 * rows, c);
            sheet.write(2 * rows + 1, thought.putIn(c) ? 1 : 0);
            rows++;
        }
        sheet.size = 2 * rows;
        return rows;
    }

    // ---- mornings by lot

    public int drawn(int seed) {
        return seed < 0 || seed > MOST_SEED ? BAD : insideBy(seed);
    }

    public long mean(int seed, int seeds, int part) {
        if (seed < 0 || seed > MOST_SEED || seeds < 1 || seeds > MOST_SEEDS) return NO;
        if (part < 0 || part > 1) return NO;
        int all = 0;
        for (int k = 0; k < seeds; k++) all += insideBy(seed + k);
        int common = commonDivisor(all, seeds);
        if (common < 1) return NO;
        return (part == 0 ? all : seeds) / common;
    }

    private static int commonDivisor(int all, int seeds) {
        for (int d = seeds; d > 1; d--) {
            if (all % d == 0 && seeds % d == 0) return d;
        }
        return 1;
    }

    private int insideBy(int seed) {
        thought.become(gate);
        long lot = seed + 1L;
        for (int k = 0; k < LOTS && thought.coins > 0; k++) {
            lot = lot * 48271L % 2147483647L;
            int c = (int) (lot % thought.coins);
            if (thought.mayPut(c)) thought.putIn(c);
        }
        return Integer.bitCount(thought.inside);
    }

    public int image() {
        image.become(gate);
        imageKept = true;
        return gate.coins;
    }

    public int back() {
        if (!imageKept) return STATE;
        gate.become(image);
        return gate.coins;
    }

    // ---- the host

    public int sheet(int s, int sort, int n) {
        if (!isSheet(s) || sort < MISSING || sort > INTS) return BAD;
        if (sort == MISSING) {
            sheets[s].become(MISSING, 0);
            return 1;
        }
        if (n > MOST_CELLS) return BAD;
        if (n < 0) return BELOW_ZERO;
        sheets[s].become(sort, n);
        return 1;
    }

    public int cell(int s, int i, int v) {
        if (!isSheet(s)) return BAD;
        if (sheets[s].sort == MISSING) return NOTHING_THERE;
        if (i < 0 || i >= sheets[s].size) return OUTSIDE;
        sheets[s].write(i, v);
        return 1;
    }

    public int copy(int s, int i, int other, int j, int n) {
        if (!isSheet(s) || !isSheet(other)) return BAD;
        Sheet from = sheets[s], to = sheets[other];
        if (from.sort == MISSING || to.sort == MISSING) return NOTHING_THERE;
        if (from.sort != to.sort) return UNLIKE;
        if (!from.hasRow(i, n) || !to.hasRow(j, n)) return OUTSIDE;
        System.arraycopy(from.cells, i, to.cells, j, n);
        return n;
    }

    public int coinsBy(int s, int sort, int at, int n) {
        if (!isSheet(s) || sort < BYTES || sort > INTS || n < 0 || n > MOST_COINS) return BAD;
        Sheet sheet = sheets[s];
        if (sheet.sort == MISSING) return NOTHING_THERE;
        if (sheet.sort != sort) return UNLIKE;
        int came = 0;
        for (int k = 0; k < n; k++) {
            // a place outside already must not be reckoned on from: it might wrap around
            if (at < 0 || at > sheet.size || !sheet.hasRow(at + 4 * k, 4)) return OUTSIDE;
            int i = at + 4 * k;
            if (coin(sheet.at(i), sheet.at(i + 1), sheet.at(i + 2), sheet.at(i + 3)) >= 0) came++;
        }
        return came;
    }

    public int taken(int i, int kind) {
        if (kind < COIN || kind > ONE_INSIDE) return BAD;
        if (i < 0 || i >= MOST_PEOPLE + MOST_COINS) return OUTSIDE;
        if (i < MOST_PEOPLE) {
            if (!gate.isOne(i) || !gate.isInside(i)) return NOTHING_THERE;
            return kind == ONE_INSIDE ? Integer.bitCount(gate.leftOf(i)) : UNLIKE;
        }
        int c = i - MOST_PEOPLE;
        Coin coin = gate.coinAt(c);
        if (coin == null || gate.isSpent(c)) return NOTHING_THERE;
        return coin.isA(kind) ? c : UNLIKE;
    }

    private static boolean isSheet(int s) {
        return s >= 0 && s < SHEETS;
    }

    /** What a coin is for good; whose it is and whether it is spent, the gate knows. */
    private static final class Coin {
        final int kind, told, more;

        Coin(int kind, int told, int more) {
            this.kind = kind;
            this.told = told;
            this.more = more;
        }

        int countsBy(int sum) {
            switch (kind) {
                case SEVEN: return 7 * told;
                case WORN: return worn();
                case BUTTON: return sum % 2 == 0 ? 0 : worn();
                case PAIR: return 2 * 7 * told + more;
                case FOREIGN: return told + (more > 0 ? sum % (more + 1) : 0);
                default: return told;
            }
        }

        private int worn() {
            return Math.max(0, told - more);
        }

        int costs() {
            switch (kind) {
                case BUTTON: return told / 3;
                case PAIR: return 2 * told;
                default: return told;
            }
        }

        boolean isA(int asked) {
            switch (asked) {
                case COIN: return true;
                case SEVEN: return kind == SEVEN || kind == PAIR;
                case WORN: return kind == WORN || kind == BUTTON;
                default: return kind == asked;
            }
        }
    }

    /** What an image keeps, and what putting in does to it; the coins and the texts are common to all gates. */
    private static final class Gate {
        private final Coin[] purse;
        private final Text[] texts;
        private final int[] own = new int[MOST_PEOPLE];
        private final int[] names = new int[NAMES];
        int number = 9, sum, minute, people, inside, coins, spent, law;

        Gate(Coin[] purse, Text[] texts) {
            this.purse = purse;
            this.texts = texts;
        }

        void become(Gate other) {
            number = other.number;
            sum = other.sum;
            minute = other.minute;
            people = other.people;
            inside = other.inside;
            coins = other.coins;
            spent = other.spent;
            law = other.law;
            for (int p = 0; p < MOST_PEOPLE; p++) own[p] = other.own[p];
        }

        /** Takes back what was put in and waited since all this was so. */
        void undo(int sum, int minute, int inside, int spent) {
            this.sum = sum;
            this.minute = minute;
            this.inside = inside;
            this.spent = spent;
        }

        boolean isOne(int p) {
            return p >= 0 && p < people;
        }

        boolean isInside(int p) {
            return (inside >> p & 1) != 0;
        }

        Coin coinAt(int c) {
            return c >= 0 && c < coins && c < purse.length ? purse[c] : null;
        }

        boolean isSpent(int c) {
            return (spent >> c & 1) != 0;
        }

        int ownerOf(int c) {
            for (int p = 0; p < MOST_PEOPLE; p++) {
                if ((own[p] >> c & 1) != 0) return p;
            }
            return 0;
        }

        void give(int c, int whose) {
            for (int p = 0; p < MOST_PEOPLE; p++) own[p] &= ~(1 << c);
            if (whose >= 0 && whose < MOST_PEOPLE) own[whose] |= 1 << c;
        }

        int leftOf(int p) {
            return p >= 0 && p < MOST_PEOPLE ? own[p] & ~spent : 0;
        }

        /** The coins that those of a set who are outside may put in. */
        int movable(int set) {
            int may = 0;
            for (int p = 0; p < people; p++) {
                if ((set >> p & 1) != 0 && !isInside(p)) may |= leftOf(p);
            }
            return may;
        }

        boolean mayPut(int c) {
            return coinAt(c) != null && !isSpent(c) && !isInside(ownerOf(c));
        }

        boolean putIn(int c) {
            Coin coin = coinAt(c);
            if (coin == null) return false;
            int who = ownerOf(c), value = coin.countsBy(sum);
            sum = Math.min(MOST_SUM, sum + value);
            spent |= 1 << c;
            boolean opens = lawSays(OPENS, sum, value, minute, Integer.bitCount(leftOf(who)), who) != 0;
            waitOn();
            if (opens) inside |= 1 << who;
            return opens;
        }

        void waitOn() {
            minute = Math.min(MOST_MINUTE, minute + 1);
        }

        void follow(int way) {
            for (int k = TENS.length - 1; k >= 0; k--) {
                int digit = way / TENS[k] % 10;
                if (digit > 0) putIn(digit - 1);
            }
        }

        int costOf(int c) {
            Coin coin = coinAt(c);
            return coin == null ? 0 : coin.costs();
        }

        int worthOf(int p) {
            int left = Integer.bitCount(leftOf(p));
            int worth = isInside(p) ? lawSays(WORTH, sum, 0, minute, left, p) : 0;
            return worth - lawSays(HASTE, sum, 0, minute, left, p);
        }

        int restOf(int all) {
            return number > 0 ? all % number : 0;
        }

        int lawSays(int part, int all, int value, int when, int many, int who) {
            Text text = law >= 0 && law < texts.length ? texts[law] : null;
            if (text == null) return 0;
            names[SUM] = all;
            names[REST] = restOf(all);
            names[VALUE] = value;
            names[MINUTE] = when;
            names[COINS] = many;
            names[WHO] = who;
            int says = text.says(part, names);
            if (part == OPENS) return says != 0 ? 1 : 0;
            return Math.max(0, Math.min(BOUND, says));
        }
    }

    /** States that were met: of two that fall into one slot the later one, so it may forget, but never err. */
    private static final class Met {
        static final int SLOTS = 1024;
        private final int[] states = new int[SLOTS];

        void forgetAll() {
            Arrays.fill(states, -1);
        }

        int slotOf(int state) {
            return state * 0x9E3779B1 >>> 22;
        }

        boolean knows(int state) {
            return states[slotOf(state)] == state;
        }

        void note(int state) {
            states[slotOf(state)] = state;
        }
    }

    /** All orders in which coins may be put in. */
    private static final class Ways {
        private final Gate gate;
        private final Met met;
        private int set, best, rests;
        int way;

        Ways(Gate thought, Met met) {
            gate = thought;
            this.met = met;
        }

        /** What the cheapest way in of a gang costs, or NO_WAY; the way stands in way, by digits. */
        int cheapest(Gate now, int gang) {
            gate.become(now);
            met.forgetAll();
            set = gang;
            best = NO_WAY;
            goOn(0, 0, 0);
            return best;
        }

        private void goOn(int depth, int cost, int path) {
            if ((gate.inside & set) == set) {
                best = cost;
                way = path;
                return;
            }
            // what is spent tells the cost and the minute: who comes here again comes no cheaper, and later
            int state = (gate.spent << 4 | gate.inside) << 14 | gate.sum;
            if (depth >= MOST_COINS || met.knows(state)) return;
            met.note(state);
            int sum = gate.sum, minute = gate.minute, inside = gate.inside, spent = gate.spent;
            int may = gate.movable(set);
            for (int c = 0; c < MOST_COINS; c++) {
                if ((may >> c & 1) == 0) continue;
                int then = cost + gate.costOf(c);
                if (best != NO_WAY && then >= best) continue;
                gate.putIn(c);
                goOn(depth + 1, then, path * 10 + c + 1);
                gate.undo(sum, minute, inside, spent);
            }
        }

        /** The rests, as bits, that one can make. */
        int restsBy(Gate now, int p) {
            gate.become(now);
            met.forgetAll();
            rests = 0;
            addRests(0, gate.sum, gate.leftOf(p));
            return rests;
        }

        private void addRests(int depth, int sum, int left) {
            rests |= 1 << gate.restOf(sum);
            int state = left << 14 | sum;
            if (depth >= MOST_COINS || met.knows(state)) return;
            met.note(state);
            for (int c = 0; c < MOST_COINS; c++) {
                if ((left >> c & 1) == 0) continue;
                Coin coin = gate.coinAt(c);
                if (coin == null) continue;
                addRests(depth + 1, Math.min(MOST_SUM, sum + coin.countsBy(sum)), left & ~(1 << c));
            }
        }
    }

    /** What each does by turns, told from the last one back. */
    private static final class Turns {
        private final Gate gate;
        private final int[][] ends = new int[MOST_TURNS + 1][MOST_PEOPLE];
        private final int[] lines = new int[MOST_TURNS + 1];
        private final Met met;
        private final int[] metEnds = new int[Met.SLOTS * MOST_PEOPLE], metLines = new int[Met.SLOTS];
        private int last;

        Turns(Gate thought, Met met) {
            gate = thought;
            this.met = met;
        }

        void think(Gate now, int steps) {
            gate.become(now);
            met.forgetAll();
            last = Math.max(0, Math.min(MOST_TURNS, steps));
            solve(0);
        }

        int endOf(int p) {
            return p >= 0 && p < MOST_PEOPLE ? ends[0][p] : 0;
        }

        int line() {
            return lines[0];
        }

        private void solve(int turn) {
            if (turn >= last || gate.people < 1) {
                settle(turn);
                return;
            }
            // the turn tells the minute; what was paid till then sways nobody's choice
            int state = ((turn << 7 | gate.spent) << 4 | gate.inside) << 14 | gate.sum;
            if (met.knows(state)) {
                recall(turn, met.slotOf(state));
                return;
            }
            int sum = gate.sum, minute = gate.minute, inside = gate.inside, spent = gate.spent;
            int who = turn % gate.people;
            int may = gate.movable(1 << who);
            gate.waitOn();
            solve(turn + 1);
            choose(turn, who, 0, 0);
            gate.undo(sum, minute, inside, spent);
            for (int c = 0; c < MOST_COINS; c++) {
                if ((may >> c & 1) == 0) continue;
                int cost = gate.costOf(c);
                gate.putIn(c);
                solve(turn + 1);
                gate.undo(sum, minute, inside, spent);
                if (ends[turn + 1][who] - cost > ends[turn][who]) choose(turn, who, c + 1, cost);
            }
            met.note(state);
            keep(turn, met.slotOf(state));
        }

        private void keep(int turn, int slot) {
            for (int p = 0; p < MOST_PEOPLE; p++) metEnds[slot * MOST_PEOPLE + p] = ends[turn][p];
            metLines[slot] = lines[turn];
        }

        private void recall(int turn, int slot) {
            for (int p = 0; p < MOST_PEOPLE; p++) ends[turn][p] = metEnds[slot * MOST_PEOPLE + p];
            lines[turn] = metLines[slot];
        }

        private void settle(int turn) {
            for (int p = 0; p < gate.people; p++) ends[turn][p] = gate.worthOf(p);
            lines[turn] = 0;
        }

        private void choose(int turn, int who, int digit, int cost) {
            for (int p = 0; p < MOST_PEOPLE; p++) ends[turn][p] = ends[turn + 1][p];
            ends[turn][who] -= cost;
            lines[turn] = digit * TENS[last - turn - 1] + lines[turn + 1];
        }
    }

    /** A row of numbers, or a missing one. */
    private static final class Sheet {
        final int[] cells = new int[MOST_CELLS];
        int sort = MISSING, size;

        void become(int newSort, int n) {
            sort = newSort;
            size = Math.max(0, Math.min(MOST_CELLS, n));
            Arrays.fill(cells, 0);
        }

        int at(int i) {
            return i >= 0 && i < size ? cells[i] : 0;
        }

        void write(int i, int v) {
            if (i < 0 || i >= size) return;
            cells[i] = sort == BYTES ? (byte) v : sort == SHORTS ? (short) v : v;
        }

        boolean hasRow(int i, int n) {
            return i >= 0 && n >= 0 && n <= size && i <= size - n;
        }

        int sumBehind(int start) {
            int sum = start;
            for (int i = 0; i + 1 < size; i += 2) sum += cells[i];
            return sum;
        }

        /** The numbers, as bits, by which the rows are so from a start on. */
        int numbersBy(int start) {
            int fit = 0;
            for (int m = LEAST_NUMBER; m <= MOST_NUMBER; m++) {
                if (isSoBy(m, start)) fit |= 1 << m;
            }
            return fit;
        }

        private boolean isSoBy(int number, int start) {
            int sum = start;
            for (int i = 0; i + 1 < size; i += 2) {
                sum += cells[i];
                boolean noRest = Math.floorMod(sum, number) == 0;
                if (noRest != (cells[i + 1] == 1)) return false;
            }
            return true;
        }
    }

    /** A text's three parts, each as a row of steps over a stack: a number 0 .. 9999 is its own step. */
    private static final class Text {
        static final int FIRST_NAME = -1, LAST_NAME = -6;
        static final int NEGATE = -7, NOT = -8;
        static final int ADD = -9, LESSEN = -10, TIMES = -11, BELOW = -12, LIKE = -13, AND = -14, OR = -15;

        private final int[] steps, from, stack;

        Text(int[] steps, int[] from) {
            this.steps = steps;
            this.from = from;
            stack = new int[steps.length];
        }

        int says(int part, int[] names) {
            if (part < 0 || part + 1 >= from.length) return 0;
            int top = 0, end = Math.min(from[part + 1], steps.length);
            for (int i = Math.max(0, from[part]); i < end; i++) {
                int step = steps[i];
                if (step >= LAST_NAME) {
                    if (top >= stack.length) return 0;
                    stack[top] = step >= 0 ? step : named(names, FIRST_NAME - step);
                    top++;
                } else if (step >= NOT) {
                    if (top < 1) return 0;
                    stack[top - 1] = step == NEGATE ? -stack[top - 1] : stack[top - 1] == 0 ? 1 : 0;
                } else {
                    if (top < 2) return 0;
                    top--;
                    stack[top - 1] = joined(step, stack[top - 1], stack[top]);
                }
            }
            return top > 0 ? stack[0] : 0;
        }

        private static int named(int[] names, int k) {
            return k >= 0 && k < names.length ? names[k] : 0;
        }

        private static int joined(int step, int a, int b) {
            switch (step) {
                case ADD: return a + b;
                case LESSEN: return a - b;
                case TIMES: return a * b;
                case BELOW: return a < b ? 1 : 0;
                case LIKE: return a == b ? 1 : 0;
                case AND: return a != 0 && b != 0 ? 1 : 0;
                default: return a != 0 || b != 0 ? 1 : 0;
            }
        }
    }

    /** The tape, and what makes a text of it: one token is looked at ahead, place is where it begins. */
    private static final class Reader {
        private static final int MOST_OPEN = 5, MOST_DIGITS = 4, WORDS = 12;
        // a sign's token is its byte, a word's its place among the words, of which the names come first
        private static final int OPENS_WORD = 6, WORTH_WORD = 7, HASTE_WORD = 8;
        private static final int OR_WORD = 9, AND_WORD = 10, NOT_WORD = 11;
        private static final int NUMBER = 256, END = 257, WRONG = 258;

        private final int[] tape = new int[TAPE_BYTES], steps = new int[TAPE_BYTES], from = new int[PARTS + 1];
        int size, fault;
        private int at, place, token, value, open, many;

        void add(int b) {
            if (size >= TAPE_BYTES) return;
            tape[size] = b;
            size++;
        }

        void write(String text) {
            for (int i = 0; i < text.length(); i++) add(text.charAt(i));
        }

        /** The tape's text, or null, and where its fault is; the tape is empty then. */
        Text readText() {
            at = 0;
            open = 0;
            many = 0;
            advance();
            boolean right = readPart(OPENS, OPENS_WORD) && readPart(WORTH, WORTH_WORD)
                && readPart(HASTE, HASTE_WORD) && token == END;
            fault = place;
            size = 0;
            return right ? new Text(Arrays.copyOf(steps, many), Arrays.copyOf(from, PARTS + 1)) : null;
        }

        private boolean readPart(int part, int word) {
            if (!pass(word) || !readEither() || !pass(';')) return false;
            from[part + 1] = many;
            return true;
        }

        private boolean readEither() {
            if (!readBoth()) return false;
            for (int k = 0; k < TAPE_BYTES && token == OR_WORD; k++) {
                advance();
                if (!readBoth()) return false;
                addStep(Text.OR);
            }
            return true;
        }

        private boolean readBoth() {
            if (!readNot()) return false;
            for (int k = 0; k < TAPE_BYTES && token == AND_WORD; k++) {
                advance();
                if (!readNot()) return false;
                addStep(Text.AND);
            }
            return true;
        }

        private boolean readNot() {
            if (token != NOT_WORD) return readCompared();
            if (!enter() || !readNot()) return false;
            open--;
            addStep(Text.NOT);
            return true;
        }

        private boolean readCompared() {
            if (!readSum()) return false;
            if (token != '<' && token != '=') return true;
            int step = token == '<' ? Text.BELOW : Text.LIKE;
            advance();
            if (!readSum()) return false;
            addStep(step);
            return true;
        }

        private boolean readSum() {
            if (!readTerm()) return false;
            for (int k = 0; k < TAPE_BYTES && (token == '+' || token == '-'); k++) {
                int step = token == '+' ? Text.ADD : Text.LESSEN;
                advance();
                if (!readTerm()) return false;
                addStep(step);
            }
            return true;
        }

        private boolean readTerm() {
            if (!readOne()) return false;
            for (int k = 0; k < TAPE_BYTES && token == '*'; k++) {
                advance();
                if (!readOne()) return false;
                addStep(Text.TIMES);
            }
            return true;
        }

        private boolean readOne() {
            if (token == NUMBER || token >= 0 && token < NAMES) {
                addStep(token == NUMBER ? value : Text.FIRST_NAME - token);
                advance();
                return true;
            }
            if (token == '-') {
                if (!enter() || !readOne()) return false;
                open--;
                addStep(Text.NEGATE);
                return true;
            }
            if (token != '(' || !enter() || !readEither() || !pass(')')) return false;
            open--;
            return true;
        }

        /** Goes into what begins with this token, if that may be open, too. */
        private boolean enter() {
            if (open >= MOST_OPEN) return false;
            open++;
            advance();
            return true;
        }

        private boolean pass(int due) {
            if (token != due) return false;
            advance();
            return true;
        }

        private void addStep(int step) {
            if (many >= steps.length) return;
            steps[many] = step;
            many++;
        }

        private void advance() {
            while (at < size && (tape[at] == ' ' || tape[at] == '\n')) at++;
            place = at;
            if (at >= size) token = END;
            else if (isLetter(tape[at])) takeWord();
            else if (isDigit(tape[at])) takeNumber();
            else takeSign(tape[at]);
        }

        private void takeWord() {
            while (at < size && isLetter(tape[at])) at++;
            token = WRONG;
            for (int k = 0; k < WORDS; k++) {
                if (spells(wordAt(k))) token = k;
            }
        }

        private boolean spells(String word) {
            if (word.length() != at - place) return false;
            for (int i = 0; i < word.length(); i++) {
                if (word.charAt(i) != tape[place + i]) return false;
            }
            return true;
        }

        private void takeNumber() {
            value = 0;
            while (at < size && isDigit(tape[at])) {
                if (at - place < MOST_DIGITS) value = 10 * value + tape[at] - '0';
                at++;
            }
            token = at - place > MOST_DIGITS ? WRONG : NUMBER;
        }

        private void takeSign(int b) {
            switch (b) {
                case '(': case ')': case ';': case '+': case '-': case '*': case '<': case '=':
                    token = b;
                    break;
                default:
                    token = WRONG;
            }
            at++;
        }

        private static boolean isLetter(int b) {
            return b >= 'a' && b <= 'z';
        }

        private static boolean isDigit(int b) {
            return b >= '0' && b <= '9';
        }

        private static String wordAt(int k) {
            switch (k) {
                case SUM: return "sum";
                case REST: return "rest";
                case VALUE: return "value";
                case MINUTE: return "minute";
                case COINS: return "coins";
                case WHO: return "who";
                case OPENS_WORD: return "opens";
                case WORTH_WORD: return "worth";
                case HASTE_WORD: return "haste";
                case OR_WORD: return "or";
                case AND_WORD: return "and";
                default: return "not";
            }
        }
    }
}
