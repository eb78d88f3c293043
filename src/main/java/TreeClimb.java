/** How high in this tree. What each call answers is told, promise by promise, in ../shared/DOC.md. */
public final class TreeClimb {
    public static final int BAD = -1, STATE = -2, FULL = -3, NONE = -9;
    public static final int NO = -1000000;

    private static final int GROUND = -1;
    private static final int MOST_BRANCHES = 12, MOST_BODIES = 3, MOST_BYTES = 400, MOST_AFTERNOONS = 40;
    private static final int IMAGES = 2;
    /** The ground is place 0 in the rows of Ways, a branch b is place b + 1. */
    private static final int PLACES = MOST_BRANCHES + 1;

    private static final int HEIGHT = 0, SIDE = 1, THICK = 2, SOUND = 3, WET = 4, NEST = 5, IS_SAWN = 6;
    private static final int[] LEAST_OF_BRANCH = {1, 0, 1, 0};
    private static final int[] MOST_OF_BRANCH = {99, 7, 30, 10};
    private static final int FEATURES = 6, SIDES = 8;

    private static final int REACH = 0, WEIGHT = 1, GRIP = 2;
    private static final int[] LEAST_OF_BODY = {1, 1, 0};
    private static final int[] MOST_OF_BODY = {30, 99, 9};
    private static final int POWERS = 3;

    private static final int BEAR = 0, TURN = 1, BLIND = 2, SLIP = 3, HARD = 4, BACK = 5;
    private static final int[] LEAST_TUNE = {1, 0, 0, 0, 1, 0};
    private static final int[] MOST_TUNE = {9, 4, 9, 10, 9, 20};
    private static final int[] FIRST_TUNE = {3, 2, 2, 4, 3, 0};

    private static final int MOST_BACK = 20, MOST_MORE_REACH = 30, MOST_TRIES = 9, MOST_WIND = 20;
    private static final int MOST_LOOKERS = 9, MOST_HEIGHT = 99, MOST_LIMIT = 9999, MOST_TO_SAW = 3;
    private static final int SWAY_ROUNDS = 24;

    private final int[] tunes = FIRST_TUNE.clone();
    private final Text text = new Text();
    private final Ways ways = new Ways();
    private final Diary diary = new Diary();
    private final Moment present = new Moment();
    private final Moment[] images = new Moment[IMAGES];
    private Wood wood = new Wood();
    /** A tree is read into this one, so that a fault leaves the other as it was. */
    private Wood draft = new Wood();
    private long asked = 0;

    public TreeClimb() {
        for (int i = 0; i < images.length; i++) {
            images[i] = new Moment();
        }
        present.lot = 1;
    }

    // ---- the tree

    public int type(long v, int n) {
        if (n < 1 || n > 8) {
            return BAD;
        }
        return text.append(v, n) ? text.length : FULL;
    }

    public int clear() {
        int had = text.length;
        text.length = 0;
        return had;
    }

    public int tree() {
        int fault = readText();
        if (fault >= 0) {
            return -10 - fault;
        }
        text.length = 0;
        standDraft();
        present.begin(0);
        present.sawn = 0;
        diary.entries = 0;
        for (int i = 0; i < images.length; i++) {
            images[i].kept = false;
        }
        return wood.branches + wood.bodies;
    }

    public int branch(int b, int what) {
        if (!isBranch(b) || what < HEIGHT || what > IS_SAWN) {
            return BAD;
        }
        return what == IS_SAWN ? bit(isSawn(b)) : wood.feature(b, what);
    }

    public int body(int p, int what) {
        return isBody(p) && what >= REACH && what <= GRIP ? wood.power(p, what) : BAD;
    }

    public int tune(int what, int v) {
        if (what < 0 || what >= tunes.length || !within(v, LEAST_TUNE, MOST_TUNE, what)) {
            return BAD;
        }
        int was = tunes[what];
        tunes[what] = v;
        return was;
    }

    public int sawn(int set) {
        int was = present.sawn;
        present.sawn = set & wood.all();
        return was;
    }

    // ---- steps, ways

    public int step(int p, int from, int to) {
        if (!isBody(p) || !isPlace(from) || !isPlace(to) || from == to) {
            return BAD;
        }
        return bit(mayStep(p, from, to, wood.power(p, REACH), tuned(BACK)));
    }

    public int holds(int p, int b) {
        return isBody(p) && isBranch(b) ? tenths(p, b) : BAD;
    }

    public long best(int p, int from, int to, int what) {
        if (!isBody(p) || !isPlace(from) || !isPlace(to) || what < 0 || what > 2) {
            return BAD;
        }
        look(p, 0, tuned(BACK));
        ways.weigh(from + 1);
        long odds = ways.oddsOf(to + 1);
        if (odds == 0) {
            return NONE;
        }
        return what == 2 ? ways.stepsTo(to + 1) : leastTerms(odds, Ways.WHOLE, what);
    }

    public int high(int p, int what) {
        if (!isBody(p) || what < 0 || what > 1) {
            return BAD;
        }
        look(p, 0, tuned(BACK));
        return what == 0 ? highest(reached(present.sawn)) : highest(returning(reached(present.sawn)));
    }

    public int sure(int p, int h) {
        if (!isBody(p) || h < 0 || h > 100) {
            return BAD;
        }
        look(p, 0, tuned(BACK));
        ways.weigh(GROUND + 1);
        int top = 0;
        for (int b = 0; b < wood.branches; b++) {
            long odds = ways.oddsOf(b + 1);
            if (odds > 0 && odds * 100 >= h * Ways.WHOLE) {
                top = Math.max(top, wood.feature(b, HEIGHT));
            }
        }
        return top;
    }

    public int help(int p, int b) {
        if (!isBody(p) || b < 0 || b > MOST_BACK) {
            return BAD;
        }
        look(p, 0, b);
        int helped = highest(reached(present.sawn));
        look(p, 0, 0);
        return helped - highest(reached(present.sawn));
    }

    public int stuck(int p, int b) {
        if (!isBody(p) || !isBranch(b)) {
            return BAD;
        }
        for (int more = 0; more <= MOST_MORE_REACH; more++) {
            look(p, more, tuned(BACK));
            if (comesDown(b)) {
                return more;
            }
        }
        return NONE;
    }

    public long rubbed(int p, int b, int set) {
        if (!isBody(p) || !isBranch(b)) {
            return BAD;
        }
        look(p, 0, tuned(BACK));
        return ways.ascents(wood, b, set & wood.all());
    }

    // ---- tries, sway, falls

    public long tried(int b, int q, int n, int what) {
        if (!isBranch(b) || q < 0 || q > 10 || n < 0 || n > MOST_TRIES || what < 0 || what > 1) {
            return BAD;
        }
        long upper = soundShare(b, n);
        return leastTerms(upper, Math.max(1, upper + unsoundShare(b, q, n)), what);
    }

    public int tries(int b, int q, int h) {
        if (!isBranch(b) || q < 0 || q > 10 || h < 0 || h > 100) {
            return BAD;
        }
        for (int n = 0; n <= MOST_TRIES; n++) {
            long upper = soundShare(b, n);
            if (upper * 100 >= h * Math.max(1, upper + unsoundShare(b, q, n))) {
                return n;
            }
        }
        return NONE;
    }

    public int sway(int p, int b, int wind) {
        return isBody(p) && isBranch(b) && wind >= 0 && wind <= MOST_WIND ? swing(p, b, wind) : BAD;
    }

    public int calm(int p, int b, int l) {
        if (!isBody(p) || !isBranch(b) || l < 0 || l > MOST_LIMIT) {
            return BAD;
        }
        for (int wind = 1; wind <= MOST_WIND; wind++) {
            if (swing(p, b, wind) > l) {
                return wind - 1;
            }
        }
        return MOST_WIND;
    }

    public int fall(int b, int what) {
        if (!isBranch(b) || what < 0 || what > 1) {
            return BAD;
        }
        return what == 0 ? harm(b, present.sawn) : wood.below(b) & ~present.sawn;
    }

    public int saw(int p, int m, int h, int what) {
        boolean told = m >= 0 && m <= MOST_LIMIT && h >= 0 && h <= MOST_HEIGHT && what >= 0 && what <= 1;
        if (!isBody(p) || !told) {
            return BAD;
        }
        look(p, 0, tuned(BACK));
        int set = leastToSaw(m, h);
        return what == 0 || set == NONE ? set : Integer.bitCount(set);
    }

    // ---- afternoons

    public int afternoon(int p, int looked, int high) {
        if (!isBody(p) || looked < 0 || looked > MOST_LOOKERS || high < 0 || high > MOST_HEIGHT) {
            return BAD;
        }
        return diary.write(p, looked, high) ? diary.entries : FULL;
    }

    public int dares(int p, int l, int h, int what) {
        boolean told = l >= 0 && l <= MOST_LOOKERS && h >= 0 && h <= MOST_HEIGHT && what >= 0 && what <= 1;
        if (!isBody(p) || !told) {
            return BAD;
        }
        int all = diary.howMany(p, l, MOST_LOOKERS, 0);
        return (int) leastTerms(diary.howMany(p, l, MOST_LOOKERS, h), Math.max(1, all), what);
    }

    public int looked(int p) {
        if (!isBody(p)) {
            return NO;
        }
        int with = diary.howMany(p, 1, MOST_LOOKERS, 0);
        int without = diary.howMany(p, 0, 0, 0);
        if (with < 1 || without < 1) {
            return NO;
        }
        return diary.heights(p, 1, MOST_LOOKERS) * 100 / with - diary.heights(p, 0, 0) * 100 / without;
    }

    // ---- the climb

    public int goes(int p) {
        if (!isBody(p)) {
            return BAD;
        }
        int was = present.who;
        present.begin(p);
        return was;
    }

    public int climb(int to) {
        int p = present.who;
        int from = present.where;
        if (!isBody(p) || !isPlace(from) || !isPlace(to)) {
            return NO;
        }
        if (!mayStep(p, from, to, wood.power(p, REACH), tuned(BACK))) {
            return NO;
        }
        if (to == GROUND || present.draw() < tenths(p, to)) {
            present.arrive(to, wood.feature(to, HEIGHT));
        } else {
            present.drop(harm(from, present.sawn));
        }
        return present.where;
    }

    public int now(int what) {
        switch (what) {
            case 0: return present.who;
            case 1: return present.where;
            case 2: return present.hurt;
            case 3: return present.top;
            case 4: return present.steps;
            case 5: return present.falls;
            default: return NO;
        }
    }

    public int lot(int v) {
        int was = present.lot;
        present.lot = v;
        return was;
    }

    // ---- kinds, images

    public int mark(int kind, int b) {
        if (!isBranch(b)) {
            return NO;
        }
        switch (kind) {
            case 0: return markBranch(b);
            case 1: return markSound(b);
            case 2: return markDead(b);
            case 3: return markSeeming(b);
            case 4: return markBent(b);
            case 5: return markWet(b);
            default: return NO;
        }
    }

    public int keep(int image) {
        if (image < 0 || image >= images.length) {
            return BAD;
        }
        images[image].become(present);
        images[image].kept = true;
        return present.hurt;
    }

    public int back(int image) {
        if (image < 0 || image >= images.length) {
            return BAD;
        }
        if (!images[image].kept) {
            return STATE;
        }
        present.become(images[image]);
        return present.hurt;
    }

    public int count(int what) {
        switch (what) {
            case 0: return wood.branches;
            case 1: return wood.bodies;
            case 2: return diary.entries;
            case 3: return Integer.bitCount(present.sawn);
            case 4: return text.length;
            default: return BAD;
        }
    }

    public long trace() {
        return asked;
    }

    // ---- what there is

    private boolean isBranch(int b) {
        return b >= 0 && b < wood.branches;
    }

    private boolean isPlace(int place) {
        return place == GROUND || isBranch(place);
    }

    private boolean isBody(int p) {
        return p >= 0 && p < wood.bodies;
    }

    private boolean isSawn(int b) {
        return has(present.sawn, b);
    }

    private int tuned(int what) {
        return what >= 0 && what < tunes.length ? tunes[what] : 0;
    }

    private static boolean has(int set, int i) {
        return i >= 0 && i < 32 && (set >>> i & 1) != 0;
    }

    private static int bit(boolean yes) {
        return yes ? 1 : 0;
    }

    private static boolean within(int v, int[] least, int[] most, int i) {
        return i >= 0 && i < least.length && i < most.length && v >= least[i] && v <= most[i];
    }

    // ---- reading a tree

    /** The place of the first fault, or -1. */
    private int readText() {
        draft.empty();
        text.rewind();
        for (int items = 0; items <= MOST_BRANCHES + MOST_BODIES; items++) {
            text.advance();
            if (text.token == Text.END) {
                return -1;
            }
            boolean good = text.token == Text.BRANCH ? readBranch(draft.branches)
                : text.token == Text.BODY && readBody(draft.bodies);
            if (!good) {
                return text.start;
            }
        }
        return text.start;
    }

    private boolean readBranch(int b) {
        if (b >= MOST_BRANCHES) {
            return false;
        }
        for (int what = HEIGHT; what <= SOUND; what++) {
            text.advance();
            if (text.token != Text.NUMBER || !within(text.number, LEAST_OF_BRANCH, MOST_OF_BRANCH, what)) {
                return false;
            }
            draft.setFeature(b, what, text.number);
        }
        text.advance();
        boolean wet = text.token == Text.WET_WORD;
        if (wet) {
            text.advance();
        }
        boolean nest = text.token == Text.NEST_WORD;
        if (nest) {
            text.advance();
        }
        draft.setFeature(b, WET, bit(wet));
        draft.setFeature(b, NEST, bit(nest));
        draft.branches = b + 1;
        return text.token == Text.SEMICOLON;
    }

    private boolean readBody(int p) {
        if (p >= MOST_BODIES) {
            return false;
        }
        for (int what = REACH; what <= GRIP; what++) {
            text.advance();
            if (text.token != Text.NUMBER || !within(text.number, LEAST_OF_BODY, MOST_OF_BODY, what)) {
                return false;
            }
            draft.setPower(p, what, text.number);
        }
        text.advance();
        draft.bodies = p + 1;
        return text.token == Text.SEMICOLON;
    }

    private void standDraft() {
        Wood old = wood;
        wood = draft;
        draft = old;
        wood.order();
    }

    // ---- steps, ways

    private boolean mayStep(int p, int from, int to, int reach, int back) {
        if (from == to || isSawn(from) || isSawn(to)) {
            return false;
        }
        if (!inReach(wood.feature(to, HEIGHT) - wood.feature(from, HEIGHT), from, reach, back)) {
            return false;
        }
        if (from == GROUND || to == GROUND) {
            return to == GROUND || bears(p, to);
        }
        return wood.sidesApart(from, to) <= tuned(TURN) && bears(p, to);
    }

    private boolean inReach(int up, int from, int reach, int back) {
        if (up > 0) {
            return up <= (from == GROUND ? reach + back : reach);
        }
        return up == 0 || -up <= reach - tuned(BLIND);
    }

    private boolean bears(int p, int b) {
        return wood.power(p, WEIGHT) <= wood.feature(b, THICK) * tuned(BEAR);
    }

    private int tenths(int p, int place) {
        if (place == GROUND) {
            return 10;
        }
        int tenths = 10;
        if (wood.power(p, WEIGHT) > wood.feature(place, THICK)) {
            tenths = wood.feature(place, SOUND);
        }
        if (wood.feature(place, WET) == 1) {
            tenths -= Math.max(0, tuned(SLIP) - wood.power(p, GRIP));
        }
        return Math.max(0, tenths);
    }

    /** All answers about ways come from what this has put down of one body. */
    private void look(int p, int more, int back) {
        int reach = wood.power(p, REACH) + more;
        ways.forget();
        for (int from = GROUND; from < wood.branches; from++) {
            ways.setTenths(from + 1, tenths(p, from));
            for (int to = GROUND; to < wood.branches; to++) {
                if (mayStep(p, from, to, reach, back)) {
                    ways.join(from + 1, to + 1);
                }
            }
        }
    }

    /** The branches to which there is a way from the ground, when these are sawn, as bits. */
    private int reached(int sawn) {
        return ways.flood(GROUND + 1, ~(sawn << 1)) >>> 1;
    }

    private boolean comesDown(int b) {
        return has(ways.flood(b + 1, -1), GROUND + 1);
    }

    private int returning(int set) {
        int back = 0;
        for (int b = 0; b < wood.branches; b++) {
            if (has(set, b) && comesDown(b)) {
                back |= 1 << b;
            }
        }
        return back;
    }

    private int highest(int set) {
        int top = 0;
        for (int b = 0; b < wood.branches; b++) {
            if (has(set, b)) {
                top = Math.max(top, wood.feature(b, HEIGHT));
            }
        }
        return top;
    }

    // ---- tries, sway, falls

    private long soundShare(int b, int n) {
        return wood.feature(b, SOUND) * power(10, n);
    }

    private long unsoundShare(int b, int q, int n) {
        return (10 - wood.feature(b, SOUND)) * power(10 - q, n);
    }

    private static long power(int base, int n) {
        long product = 1;
        for (int i = 0; i < n; i++) {
            product *= base;
        }
        return product;
    }

    private static long leastTerms(long upper, long lower, int what) {
        long divisor = commonDivisor(upper, lower);
        if (divisor < 1) {
            return 0;
        }
        return what == 0 ? upper / divisor : lower / divisor;
    }

    private static long commonDivisor(long a, long b) {
        // Two longs above 0 take fewer than a hundred rounds.
        for (int round = 0; round < 100 && b != 0; round++) {
            long rest = a % b;
            a = b;
            b = rest;
        }
        return a;
    }

    private int swing(int p, int b, int wind) {
        int push = wind * wood.feature(b, HEIGHT) / 10;
        int thick = wood.feature(b, THICK);
        int wide = 0;
        int speed = 0;
        int widest = 0;
        for (int round = 0; round < SWAY_ROUNDS; round++) {
            speed += push - wide * thick / 10 - speed / 4;
            wide += speed;
            widest = Math.max(widest, Math.abs(wide));
        }
        return widest * wood.power(p, WEIGHT) / 50;
    }

    private int harm(int from, int sawn) {
        int struck = wood.below(from) & ~sawn;
        int height = wood.feature(from, HEIGHT);
        int speed = 0;
        int blows = 0;
        for (int i = 0; i < wood.branches; i++) {
            int b = wood.downward(i);
            if (has(struck, b)) {
                speed += height - wood.feature(b, HEIGHT);
                height = wood.feature(b, HEIGHT);
                speed /= 2;
                blows += speed;
            }
        }
        return blows + (speed + height) * tuned(HARD);
    }

    private int leastToSaw(int m, int h) {
        int least = NONE;
        int fewest = MOST_TO_SAW + 1;
        for (int set = 0; set <= wood.all(); set++) {
            int many = Integer.bitCount(set);
            if (many < fewest && (set & present.sawn) == 0 && isSafe(m, h, set | present.sawn)) {
                least = set;
                fewest = many;
            }
        }
        return least;
    }

    private boolean isSafe(int m, int h, int sawn) {
        int set = reached(sawn);
        if (highest(set) < h) {
            return false;
        }
        for (int b = 0; b < wood.branches; b++) {
            if (has(set, b) && harm(b, sawn) > m) {
                return false;
            }
        }
        return true;
    }

    // ---- kinds

    private int markBranch(int b) {
        asked += 1;
        return wood.feature(b, HEIGHT);
    }

    private int markSound(int b) {
        asked += 10;
        return markBranch(b) + wood.feature(b, THICK);
    }

    private int markDead(int b) {
        asked += 100;
        return markBranch(b) - (10 - wood.feature(b, SOUND));
    }

    private int markSeeming(int b) {
        asked += 1000;
        return 2 * markDead(b);
    }

    private int markBent(int b) {
        asked += 10000;
        return markSound(b) - wood.feature(b, SIDE);
    }

    private int markWet(int b) {
        asked += 100000;
        return markBranch(b) + (wood.feature(b, WET) == 1 ? 5 : 0);
    }

    /** What is typed, and the tokens in it. */
    private static final class Text {
        static final int END = 0, SEMICOLON = 1, NUMBER = 2, BRANCH = 3, WET_WORD = 4, NEST_WORD = 5, BODY = 6;
        static final int WRONG = 7;

        final int[] bytes = new int[MOST_BYTES];
        int length = 0;
        int at = 0;
        int start = 0;
        int token = END;
        int number = 0;

        boolean append(long v, int n) {
            if (n < 1 || n > 8 || length + n > bytes.length) {
                return false;
            }
            for (int i = n - 1; i >= 0; i--) {
                bytes[length] = (int) (v >>> 8 * i) & 255;
                length++;
            }
            return true;
        }

        void rewind() {
            at = 0;
        }

        int byteAt(int i) {
            return i >= 0 && i < length && i < bytes.length ? bytes[i] : -1;
        }

        void advance() {
            while (at < length && byteAt(at) == ' ') {
                at++;
            }
            start = at;
            int first = byteAt(at);
            if (first < 0) {
                token = END;
            } else if (first == ';') {
                at++;
                token = SEMICOLON;
            } else if (isDigit(first)) {
                token = readNumber();
            } else if (isLetter(first)) {
                token = readWord();
            } else {
                token = WRONG;
            }
        }

        private int readNumber() {
            int value = 0;
            while (at < length && isDigit(byteAt(at))) {
                // Kept low, as the digits may be some hundreds.
                value = Math.min(100, value * 10 + byteAt(at) - '0');
                at++;
            }
            number = value;
            boolean zeroAhead = byteAt(start) == '0' && at - start > 1;
            return zeroAhead || value > 99 ? WRONG : NUMBER;
        }

        private int readWord() {
            while (at < length && isLetter(byteAt(at))) {
                at++;
            }
            if (says("branch")) {
                return BRANCH;
            }
            if (says("wet")) {
                return WET_WORD;
            }
            if (says("nest")) {
                return NEST_WORD;
            }
            return says("body") ? BODY : WRONG;
        }

        private boolean says(String word) {
            if (at - start != word.length()) {
                return false;
            }
            for (int i = 0; i < word.length(); i++) {
                if (byteAt(start + i) != word.charAt(i)) {
                    return false;
                }
            }
            return true;
        }

        private static boolean isDigit(int b) {
            return b >= '0' && b <= '9';
        }

        private static boolean isLetter(int b) {
            return b >= 'a' && b <= 'z';
        }
    }

    /** A tree as it was read: its branches and bodies. */
    private static final class Wood {
        int branches = 0;
        int bodies = 0;
        private final int[][] features = new int[FEATURES][MOST_BRANCHES];
        private final int[][] powers = new int[POWERS][MOST_BODIES];
        private final int[] downward = new int[MOST_BRANCHES];
        private final int[] under = new int[MOST_BRANCHES];

        void empty() {
            branches = 0;
            bodies = 0;
        }

        /** 0 of the ground, whose height that is. */
        int feature(int b, int what) {
            return b >= 0 && b < MOST_BRANCHES && what >= 0 && what < FEATURES ? features[what][b] : 0;
        }

        void setFeature(int b, int what, int v) {
            if (b >= 0 && b < MOST_BRANCHES && what >= 0 && what < FEATURES) {
                features[what][b] = v;
            }
        }

        int power(int p, int what) {
            return p >= 0 && p < MOST_BODIES && what >= 0 && what < POWERS ? powers[what][p] : 0;
        }

        void setPower(int p, int what, int v) {
            if (p >= 0 && p < MOST_BODIES && what >= 0 && what < POWERS) {
                powers[what][p] = v;
            }
        }

        int all() {
            return (1 << branches) - 1;
        }

        int sidesApart(int a, int b) {
            int apart = Math.abs(feature(a, SIDE) - feature(b, SIDE));
            return Math.min(apart, SIDES - apart);
        }

        /** The i-th branch, the higher first, of several the first. */
        int downward(int i) {
            return i >= 0 && i < downward.length ? downward[i] : 0;
        }

        /** What one strikes who falls from this branch, were nothing sawn, as bits. */
        int below(int b) {
            return b >= 0 && b < under.length ? under[b] : 0;
        }

        void order() {
            for (int b = 0; b < branches && b < MOST_BRANCHES; b++) {
                int i = b;
                while (i > 0 && feature(downward[i - 1], HEIGHT) < feature(b, HEIGHT)) {
                    downward[i] = downward[i - 1];
                    i--;
                }
                downward[i] = b;
                under[b] = lowerNear(b);
            }
        }

        private int lowerNear(int b) {
            int set = 0;
            for (int other = 0; other < branches; other++) {
                if (feature(other, HEIGHT) < feature(b, HEIGHT) && sidesApart(other, b) <= 1) {
                    set |= 1 << other;
                }
            }
            return set;
        }
    }

    /** Which steps one body may do, how each place holds it, and what follows for ways. */
    private static final class Ways {
        /** Odds are counted in parts of this: no way of the best odds has more than 12 steps, so none is rounded. */
        static final long WHOLE = 1000000000000L;

        private final int[] next = new int[PLACES];
        private final int[] tenths = new int[PLACES];
        private final int[] steps = new int[PLACES];
        private final long[] odds = new long[PLACES];
        private final long[] counts = new long[PLACES];
        private long[] before = new long[PLACES];
        private long[] after = new long[PLACES];

        void forget() {
            for (int i = 0; i < PLACES; i++) {
                next[i] = 0;
                tenths[i] = 0;
            }
        }

        void setTenths(int place, int v) {
            if (isIn(place)) {
                tenths[place] = v;
            }
        }

        void join(int from, int to) {
            if (isIn(from) && isIn(to)) {
                next[from] |= 1 << to;
            }
        }

        long oddsOf(int place) {
            return isIn(place) ? odds[place] : 0;
        }

        int stepsTo(int place) {
            return isIn(place) ? steps[place] : 0;
        }

        /** All places to which there is a way with odds above 0 by these places, as bits. */
        int flood(int start, int allowed) {
            int good = allowed & firm();
            int seen = isIn(start) ? 1 << start : 0;
            int open = seen;
            for (int taken = 0; taken < PLACES && open != 0; taken++) {
                int place = Integer.numberOfTrailingZeros(open);
                open &= open - 1;
                int fresh = isIn(place) ? next[place] & good & ~seen : 0;
                seen |= fresh;
                open |= fresh;
            }
            return seen;
        }

        private int firm() {
            int set = 0;
            for (int i = 0; i < PLACES; i++) {
                if (tenths[i] > 0) {
                    set |= 1 << i;
                }
            }
            return set;
        }

        /** Puts down of each place the best odds from this one, and with how few steps they are had. */
        void weigh(int start) {
            for (int i = 0; i < PLACES; i++) {
                before[i] = i == start ? WHOLE : 0;
                odds[i] = before[i];
                steps[i] = 0;
            }
            for (int many = 1; many < PLACES; many++) {
                for (int to = 0; to < PLACES; to++) {
                    after[to] = bestInto(to);
                    if (after[to] > odds[to]) {
                        odds[to] = after[to];
                        steps[to] = many;
                    }
                }
                long[] spare = before;
                before = after;
                after = spare;
            }
        }

        private long bestInto(int to) {
            if (!isIn(to)) {
                return 0;
            }
            long most = 0;
            for (int from = 0; from < PLACES; from++) {
                if (has(next[from], to)) {
                    most = Math.max(most, before[from]);
                }
            }
            return most * tenths[to] / 10;
        }

        /** In how many ways, always upward, one comes from the ground to a branch by all of a set. */
        long ascents(Wood wood, int goal, int set) {
            if (skips(wood, goal, MOST_BRANCHES, set)) {
                return 0;
            }
            for (int i = 0; i < PLACES; i++) {
                counts[i] = i == GROUND + 1 ? 1 : 0;
            }
            for (int i = wood.branches - 1; i >= 0; i--) {
                int to = wood.downward(i);
                if (isIn(to + 1)) {
                    counts[to + 1] = ascentsInto(wood, to, set);
                }
            }
            return isIn(goal + 1) ? counts[goal + 1] : 0;
        }

        private long ascentsInto(Wood wood, int to, int set) {
            long sum = 0;
            for (int from = GROUND; from < wood.branches && from + 1 < PLACES; from++) {
                boolean up = wood.feature(from, HEIGHT) < wood.feature(to, HEIGHT);
                if (up && has(next[from + 1], to + 1) && !skips(wood, from, to, set)) {
                    sum += counts[from + 1];
                }
            }
            return sum;
        }

        /**
         * Whether one who goes up from a place to another one (to one above all, if it is MOST_BRANCHES) has then
         * missed a branch of the set for good, as he never comes back to its height.
         */
        private static boolean skips(Wood wood, int from, int to, int set) {
            int low = wood.feature(from, HEIGHT);
            int top = to == MOST_BRANCHES ? MOST_HEIGHT : wood.feature(to, HEIGHT);
            for (int b = 0; b < wood.branches; b++) {
                int height = wood.feature(b, HEIGHT);
                if (has(set, b) && b != from && b != to && height >= low && height <= top) {
                    return true;
                }
            }
            return false;
        }

        private static boolean isIn(int place) {
            return place >= 0 && place < PLACES;
        }
    }

    /** The afternoons. */
    private static final class Diary {
        int entries = 0;
        private final int[] bodies = new int[MOST_AFTERNOONS];
        private final int[] lookers = new int[MOST_AFTERNOONS];
        private final int[] tops = new int[MOST_AFTERNOONS];

        boolean write(int p, int looking, int top) {
            if (entries < 0 || entries >= MOST_AFTERNOONS) {
                return false;
            }
            bodies[entries] = p;
            lookers[entries] = looking;
            tops[entries] = top;
            entries++;
            return true;
        }

        int howMany(int p, int leastLookers, int mostLookers, int leastTop) {
            int many = 0;
            for (int i = 0; i < entries && i < MOST_AFTERNOONS; i++) {
                if (isOf(i, p, leastLookers, mostLookers) && tops[i] >= leastTop) {
                    many++;
                }
            }
            return many;
        }

        int heights(int p, int leastLookers, int mostLookers) {
            int sum = 0;
            for (int i = 0; i < entries && i < MOST_AFTERNOONS; i++) {
                if (isOf(i, p, leastLookers, mostLookers)) {
                    sum += tops[i];
                }
            }
            return sum;
        }

        private boolean isOf(int i, int p, int leastLookers, int mostLookers) {
            if (i < 0 || i >= MOST_AFTERNOONS || bodies[i] != p) {
                return false;
            }
            return lookers[i] >= leastLookers && lookers[i] <= mostLookers;
        }
    }

    /** All that an image keeps: the climb, the lot, what is sawn. */
    private static final class Moment {
        int who = 0;
        int where = GROUND;
        int hurt = 0;
        int top = 0;
        int steps = 0;
        int falls = 0;
        int lot = 0;
        int sawn = 0;
        /** Of an image: whether it holds anything. */
        boolean kept = false;

        void begin(int p) {
            who = p;
            where = GROUND;
            hurt = 0;
            top = 0;
            steps = 0;
            falls = 0;
        }

        void become(Moment other) {
            who = other.who;
            where = other.where;
            hurt = other.hurt;
            top = other.top;
            steps = other.steps;
            falls = other.falls;
            lot = other.lot;
            sawn = other.sawn;
        }

        int draw() {
            lot = lot * 1103515245 + 12345;
            return (lot >>> 16) % 10;
        }

        void arrive(int place, int height) {
            where = place;
            top = Math.max(top, height);
            steps++;
        }

        void drop(int harm) {
            where = GROUND;
            hurt += harm;
            falls++;
        }
    }
}
