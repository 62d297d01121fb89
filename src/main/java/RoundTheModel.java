import java.util.Arrays;

/** Eleven easels in a ring round a model, and how pleased the painters are, pose by pose. */
public final class RoundTheModel {
    public static final int NONE = -1, BAD = -2, STATE = -3, FULL = -4;
    public static final long NO = -4611686018427387904L;

    private static final int NOTHING = -11, OUTSIDE = -12, OTHER_SORT = -13, BELOW_ZERO = -14;
    private static final int NO_SUCH = -100000;

    private static final int EASELS = 11, MOST_PAINTERS = 6, KINDS = 6, NUMBERS = 10, MOST_TEXTS = 6;
    private static final int ALL_EASELS = (1 << EASELS) - 1;
    private static final int LAST_POSE = 999, MOST_POSES = 40, MOST_TRIED = 10, MOST_FILMED = 20;
    private static final int MOST_SEEDS = 20, CHALK_POSES = 6;
    private static final int MOST_PLEASED = 99999, MOST_TOLD = 99;
    private static final int SHEETS = 4, MOST_ITEMS = 40, TAPE = 160, MOST_OPEN = 5;
    private static final int BYTES = 0, SHORTS = 1, INTS = 2, MISSING = -1;

    private static final int PAINTER = 0, LEFT = 1, TALL = 2, LATE = 3, OLD = 4, PAID = 5;
    /** Of each KIND the one that it is under. */
    private static final int[] UNDER = {NONE, PAINTER, PAINTER, LEFT, TALL, PAINTER};

    private static final int NAMES = 6;
    private static final int SIDE = 0, LAMP = 1, STOVE = 2, NUMBER = 3, POSE = 4, NEAR = 5;
    private static final int VIEWS = 0, WARMS = 1, MINDS = 2, PARTS = 3;
    private static final String FIRST_RULE = "views 10 - side ; warms 5 - stove ; minds near ;";

    /** Signs of a TEXT's code; a NUMBER is itself there, a NAME is -1 less its place among NAMES. */
    private static final int OR = -10, AND = -11, NOT = -12, MINUS = -13;
    private static final int PLUS = -14, LESS_BY = -15, TIMES = -16, BELOW = -17, LIKE = -18;
    /** Operands that wait: five in each of six open brackets, and one. */
    private static final int MOST_WAITING = 40;

    private final Ring now = new Ring();
    private final Ring thought = new Ring();
    private final Ring kept = new Ring();
    private boolean isKept = false;
    private final Reader reader = new Reader();
    private final Text[] texts = new Text[MOST_TEXTS];
    private int textCount = 1;
    private final Sight sight = new Sight();
    private final Most most = new Most();
    private final Sheet[] sheets = new Sheet[SHEETS];

    public RoundTheModel() {
        for (int i = 0; i < SHEETS; i++) {
            sheets[i] = new Sheet();
        }
        for (int i = 0; i < FIRST_RULE.length(); i++) {
            reader.add(FIRST_RULE.charAt(i));
        }
        texts[0] = reader.read();
    }

    // ---- the ring, painters

    public int set(int what, int of, int v) {
        if (!maySet(what, of, v)) {
            return BAD;
        }
        int was = now.toldPlain(of, what);
        now.put(what, of, v);
        return was;
    }

    private boolean maySet(int what, int of, int v) {
        switch (what) {
            case 0:
            case 1:
            case 2:
                return isEasel(v);
            case 3:
                return v >= 0 && v <= LAST_POSE;
            case 4:
                return now.has(of) && v >= 0 && v < NUMBERS;
            case 5:
                return now.has(of) && now.maySitAt(of, v);
            default:
                return false;
        }
    }

    public int painter(int kind, int number, int easel) {
        if (!isKind(kind) || number < 0 || number >= NUMBERS || !now.isFree(easel)) {
            return BAD;
        }
        if (now.painters >= MOST_PAINTERS) {
            return FULL;
        }
        now.come(kind, number, easel);
        return now.painters - 1;
    }

    public int told(int of, int what) {
        if (what >= 0 && what <= 3) {
            return now.toldPlain(of, what);
        }
        if (what < 0 || what > 14 || !now.has(of)) {
            return NO_SUCH;
        }
        return what <= 9 ? now.toldPlain(of, what) : toldSeen(of, what);
    }

    private int toldSeen(int of, int what) {
        sight.see(now, of, texts);
        int kind = now.kind[of];
        switch (what) {
            case 10:
                return sight.view(kind);
            case 11:
                return sight.warmth(kind);
            case 12:
                return sight.minding(kind);
            case 13:
                return pleasedBy(now, of);
            default:
                return sight.names[NEAR];
        }
    }

    // ---- texts

    public int feed(int letter) {
        if (letter < 0 || letter > 255) {
            return BAD;
        }
        if (reader.size >= TAPE) {
            return FULL;
        }
        reader.add(letter);
        return reader.size;
    }

    public int text() {
        if (textCount >= MOST_TEXTS) {
            return FULL;
        }
        Text read = reader.read();
        if (read == null) {
            return -100 - reader.fault;
        }
        texts[textCount] = read;
        textCount++;
        return textCount - 1;
    }

    public int force(int text) {
        if (text < 0 || text >= textCount) {
            return BAD;
        }
        int was = now.rule;
        now.rule = text;
        return was;
    }

    // ---- poses

    public int pose(int turnStep) {
        if (!isTurnStep(turnStep) || now.pose >= LAST_POSE) {
            return NO_SUCH;
        }
        int whole = wholeOf(now);
        pass(now, turnStep / 100, turnStep % 100);
        return whole;
    }

    public int run(int n, int turnStep, int what) {
        if (!isPoses(n) || !isTurnStep(turnStep) || !isRunWhat(what)) {
            return NO_SUCH;
        }
        think(n, turnStep / 100, turnStep % 100);
        switch (what) {
            case 0:
                return thought.sum();
            case 1:
                return thought.least();
            case 2:
                return thought.leastPleased();
            case 3:
                return thought.face;
            default:
                return what < 20 ? thought.pleased[what - 10] : thought.had[what - 20];
        }
    }

    private boolean isRunWhat(int what) {
        if (what < 10) {
            return what >= 0 && what <= 3;
        }
        return what < 20 ? now.has(what - 10) : now.has(what - 20);
    }

    public int ring(int what) {
        switch (what) {
            case 0:
                return wholeOf(now);
            case 1:
                return mostPleased();
            case 2:
                return now.freeEasels();
            case 3:
                return worst();
            default:
                return NO_SUCH;
        }
    }

    private int mostPleased() {
        most.clear();
        for (int who = 0; who < now.painters; who++) {
            most.offer(who, pleasedBy(now, who));
        }
        return most.at;
    }

    private int worst() {
        most.clear();
        thought.take(now);
        for (int easel = 0; easel < EASELS && now.has(0); easel++) {
            if (now.isFree(easel)) {
                thought.easel[0] = easel;
                most.offer(easel, -pleasedBy(thought, 0));
            }
        }
        return most.at;
    }

    public long mean(int n, int turnStep, int part) {
        if (!isPoses(n) || !isTurnStep(turnStep) || !isPart(part) || now.painters == 0) {
            return NO;
        }
        think(n, turnStep / 100, turnStep % 100);
        return lowest(thought.sum(), now.painters, part);
    }

    // ---- what would be best

    public int best(int n, int what) {
        if (n < 0 || n > MOST_TRIED || what < 0 || what > 3) {
            return NO_SUCH;
        }
        most.clear();
        for (int turn = 0; turn < EASELS; turn++) {
            for (int step = 0; step < EASELS; step++) {
                think(n, turn, step);
                most.offer(100 * turn + step, what < 2 ? thought.sum() : thought.least());
            }
        }
        return most.atOrValue(what);
    }

    public int seat(int painter, int what) {
        if (!now.has(painter) || what < 0 || what > 1) {
            return NO_SUCH;
        }
        most.clear();
        thought.take(now);
        for (int easel = 0; easel < EASELS; easel++) {
            if (now.maySitAt(painter, easel)) {
                thought.easel[painter] = easel;
                most.offer(easel, wholeOf(thought));
            }
        }
        return most.atOrValue(what);
    }

    public int change(int what) {
        if (what < 0 || what > 7) {
            return NO_SUCH;
        }
        most.clear();
        thought.take(now);
        if (what < 2) {
            offerPairs();
        } else {
            offerPlaces(what / 2);
        }
        return most.atOrValue(what);
    }

    /** What is so now is offered first, so that a pair has to be more than that. */
    private void offerPairs() {
        most.offer(NONE, wholeOf(now));
        for (int one = 0; one < now.painters; one++) {
            for (int other = one + 1; other < now.painters; other++) {
                thought.exchange(one, other);
                most.offer(10 * one + other, wholeOf(thought));
                thought.exchange(one, other);
            }
        }
    }

    private void offerPlaces(int which) {
        for (int easel = 0; easel < EASELS; easel++) {
            if (which == 1) {
                thought.lamp = easel;
            } else if (which == 2) {
                thought.stove = easel;
            } else {
                thought.face = easel;
            }
            most.offer(easel, wholeOf(thought));
        }
    }

    public int round(int painter, int turnStep) {
        if (!now.has(painter) || !isTurnStep(turnStep)) {
            return BAD;
        }
        thought.take(now);
        for (int n = 0; n <= MOST_POSES; n++) {
            if (thought.had[painter] == ALL_EASELS) {
                return n;
            }
            thought.haveSides();
            thought.move(turnStep / 100, turnStep % 100);
        }
        return NONE;
    }

    // ---- poses that were told

    public int tells(int sheet, int painter, int turnStep, int what) {
        if (!isSheet(sheet) || !now.has(painter) || !isTurnStep(turnStep) || what < 0 || what > 7) {
            return BAD;
        }
        Sheet told = sheets[sheet];
        if (told.isMissing()) {
            return NOTHING;
        }
        if (told.size > MOST_FILMED) {
            return BAD;
        }
        if (what == 0) {
            thought.take(now);
            return firstOtherwise(told, painter, turnStep);
        }
        int bits = 0;
        for (int v = 0; v < EASELS; v++) {
            thought.take(now);
            if (suppose(what, painter, v) && firstOtherwise(told, painter, turnStep) == NONE) {
                bits |= 1 << v;
            }
        }
        return bits;
    }

    /** Lays what is asked for into the thought; false, if it could not be so. */
    private boolean suppose(int what, int painter, int v) {
        switch (what) {
            case 1:
                thought.kind[painter] = v;
                return isKind(v);
            case 2:
                thought.number[painter] = v;
                return v < NUMBERS;
            case 3:
                thought.easel[painter] = v;
                return now.maySitAt(painter, v);
            case 4:
                thought.face = v;
                return true;
            case 5:
                thought.lamp = v;
                return true;
            case 6:
                thought.stove = v;
                return true;
            default:
                thought.rule = v;
                return v < textCount;
        }
    }

    private int firstOtherwise(Sheet told, int painter, int turnStep) {
        for (int i = 0; i < told.size; i++) {
            if (pleasedBy(thought, painter) != told.items[i]) {
                return i;
            }
            thought.move(turnStep / 100, turnStep % 100);
        }
        return NONE;
    }

    public int film(int sheet, int painter, int turnStep, int n) {
        if (!isSheet(sheet) || !now.has(painter) || !isTurnStep(turnStep) || n < 0 || n > MOST_FILMED) {
            return BAD;
        }
        Sheet filmed = sheets[sheet];
        filmed.become(SHORTS, n);
        thought.take(now);
        for (int i = 0; i < n; i++) {
            filmed.put(i, pleasedBy(thought, painter));
            thought.move(turnStep / 100, turnStep % 100);
        }
        return n;
    }

    public int drawn(int seed, int n) {
        return isPoses(n) ? chalkSum(seed, n) : NO_SUCH;
    }

    private int chalkSum(int seed, int n) {
        beginThought();
        int z = seed;
        for (int i = 0; i < n; i++) {
            z = z * 1103515245 + 12345;
            pass(thought, (z >>> 9) % EASELS, 0);
        }
        return thought.sum();
    }

    public long chance(int seed, int m, int k, int part) {
        if (m < 1 || m > MOST_SEEDS || k < -MOST_PLEASED || k > MOST_PLEASED || !isPart(part)) {
            return NO;
        }
        int enough = 0;
        for (int i = 0; i < m; i++) {
            if (chalkSum(seed + i, CHALK_POSES) >= k) {
                enough++;
            }
        }
        return lowest(enough, m, part);
    }

    public int image() {
        kept.take(now);
        isKept = true;
        return now.painters;
    }

    public int back() {
        if (!isKept) {
            return STATE;
        }
        now.take(kept);
        return now.painters;
    }

    public int count(int what) {
        switch (what) {
            case 0:
                return now.painters;
            case 1:
                return now.pose;
            case 2:
                return EASELS - now.painters;
            case 3:
                return textCount;
            case 4:
                return reader.size;
            case 5:
                return now.rule;
            default:
                return BAD;
        }
    }

    // ---- the host

    public int sheet(int sheet, int sort, int n) {
        if (!isSheet(sheet)) {
            return BAD;
        }
        if (sort == MISSING) {
            sheets[sheet].become(MISSING, 0);
            return 1;
        }
        if (!isSort(sort) || n > MOST_ITEMS) {
            return BAD;
        }
        if (n < 0) {
            return BELOW_ZERO;
        }
        sheets[sheet].become(sort, n);
        return 1;
    }

    public int cell(int sheet, int i, int v) {
        if (!isSheet(sheet)) {
            return BAD;
        }
        Sheet row = sheets[sheet];
        if (row.isMissing()) {
            return NOTHING;
        }
        if (!row.hasItems(i, 1)) {
            return OUTSIDE;
        }
        row.put(i, v);
        return 1;
    }

    public int copy(int sheet, int i, int other, int j, int n) {
        if (!isSheet(sheet) || !isSheet(other)) {
            return BAD;
        }
        Sheet from = sheets[sheet];
        Sheet to = sheets[other];
        if (from.isMissing() || to.isMissing()) {
            return NOTHING;
        }
        if (from.sort != to.sort) {
            return OTHER_SORT;
        }
        if (!from.hasItems(i, n) || !to.hasItems(j, n)) {
            return OUTSIDE;
        }
        System.arraycopy(from.items, i, to.items, j, n);
        return n;
    }

    public int painters(int sheet, int sort, int from, int n) {
        if (!isSheet(sheet) || !isSort(sort) || n < 0 || n > MOST_PAINTERS) {
            return BAD;
        }
        Sheet row = sheets[sheet];
        if (row.isMissing()) {
            return NOTHING;
        }
        if (row.sort != sort) {
            return OTHER_SORT;
        }
        int came = 0;
        int at = from;
        for (int i = 0; i < n; i++) {
            if (!row.hasItems(at, 3)) {
                return OUTSIDE;
            }
            if (painter(row.items[at], row.items[at + 1], row.items[at + 2]) >= 0) {
                came++;
            }
            at += 3;
        }
        return came;
    }

    public int taken(int painter, int k) {
        if (!isKind(k)) {
            return BAD;
        }
        if (!now.has(painter)) {
            return NOTHING;
        }
        return isOrUnder(now.kind[painter], k) ? now.number[painter] : OTHER_SORT;
    }

    private static boolean isOrUnder(int kind, int above) {
        int at = kind;
        for (int i = 0; i < KINDS && isKind(at); i++) {
            if (at == above) {
                return true;
            }
            at = UNDER[at];
        }
        return false;
    }

    // ---- what the calls share

    private static boolean isEasel(int easel) {
        return easel >= 0 && easel < EASELS;
    }

    private static boolean isKind(int kind) {
        return kind >= 0 && kind < KINDS;
    }

    private static boolean isSheet(int sheet) {
        return sheet >= 0 && sheet < SHEETS;
    }

    private static boolean isSort(int sort) {
        return sort >= BYTES && sort <= INTS;
    }

    private static boolean isPart(int part) {
        return part == 0 || part == 1;
    }

    private static boolean isPoses(int n) {
        return n >= 0 && n <= MOST_POSES;
    }

    private static boolean isTurnStep(int turnStep) {
        return turnStep >= 0 && turnStep / 100 < EASELS && turnStep % 100 < EASELS;
    }

    private static int within(int low, int v, int high) {
        return Math.max(low, Math.min(v, high));
    }

    /** Part 0 or 1 of a fraction whose line is above 0. */
    private static long lowest(int above, int below, int part) {
        int common = below;
        int rest = Math.abs(above);
        for (int i = 0; i < 100 && rest != 0; i++) {
            int next = common % rest;
            common = rest;
            rest = next;
        }
        if (common == 0) {
            return NO;
        }
        return part == 0 ? above / common : below / common;
    }

    private int pleasedBy(Ring ring, int who) {
        sight.see(ring, who, texts);
        int kind = ring.kind[who];
        return sight.view(kind) + sight.warmth(kind) - sight.minding(kind);
    }

    private int wholeOf(Ring ring) {
        int whole = 0;
        for (int who = 0; who < ring.painters; who++) {
            whole += pleasedBy(ring, who);
        }
        return whole;
    }

    private void pass(Ring ring, int turn, int step) {
        for (int who = 0; who < ring.painters; who++) {
            ring.please(who, pleasedBy(ring, who));
        }
        ring.haveSides();
        ring.move(turn, step);
    }

    /** The thought's PLEASED begins at 0, so that it tells what the POSES there alone brought. */
    private void beginThought() {
        thought.take(now);
        Arrays.fill(thought.pleased, 0);
    }

    private void think(int n, int turn, int step) {
        beginThought();
        for (int i = 0; i < n; i++) {
            pass(thought, turn, step);
        }
    }

    /** The easels, who sits there, and all that an image keeps. */
    private static final class Ring {
        int face = 0;
        int lamp = 0;
        int stove = 5;
        int pose = 0;
        int rule = 0;
        int painters = 0;
        final int[] kind = new int[MOST_PAINTERS];
        final int[] number = new int[MOST_PAINTERS];
        final int[] easel = new int[MOST_PAINTERS];
        final int[] had = new int[MOST_PAINTERS];
        final int[] pleased = new int[MOST_PAINTERS];

        void take(Ring other) {
            face = other.face;
            lamp = other.lamp;
            stove = other.stove;
            pose = other.pose;
            rule = other.rule;
            painters = other.painters;
            System.arraycopy(other.kind, 0, kind, 0, MOST_PAINTERS);
            System.arraycopy(other.number, 0, number, 0, MOST_PAINTERS);
            System.arraycopy(other.easel, 0, easel, 0, MOST_PAINTERS);
            System.arraycopy(other.had, 0, had, 0, MOST_PAINTERS);
            System.arraycopy(other.pleased, 0, pleased, 0, MOST_PAINTERS);
        }

        boolean has(int who) {
            return who >= 0 && who < painters;
        }

        void come(int ofKind, int ofNumber, int atEasel) {
            kind[painters] = ofKind;
            number[painters] = ofNumber;
            easel[painters] = atEasel;
            had[painters] = 0;
            pleased[painters] = 0;
            painters++;
        }

        boolean isFree(int place) {
            return isEasel(place) && (freeEasels() >> place & 1) == 1;
        }

        boolean maySitAt(int who, int place) {
            return easel[who] == place || isFree(place);
        }

        int freeEasels() {
            int free = ALL_EASELS;
            for (int who = 0; who < painters; who++) {
                free &= ~(1 << easel[who]);
            }
            return free;
        }

        int sideOf(int who) {
            return (easel[who] - face + EASELS) % EASELS;
        }

        int nearOf(int who) {
            int near = 0;
            for (int other = 0; other < painters; other++) {
                if (awayOf(easel[who], easel[other]) == 1) {
                    near++;
                }
            }
            return near;
        }

        static int awayOf(int one, int other) {
            int apart = Math.abs(one - other);
            return Math.min(apart, EASELS - apart);
        }

        /** What needs no rule, by the numbers of told(). */
        int toldPlain(int who, int what) {
            switch (what) {
                case 0:
                    return face;
                case 1:
                    return lamp;
                case 2:
                    return stove;
                case 3:
                    return pose;
                case 4:
                    return number[who];
                case 5:
                    return easel[who];
                case 6:
                    return kind[who];
                case 7:
                    return had[who];
                case 8:
                    return pleased[who];
                default:
                    return sideOf(who);
            }
        }

        void put(int what, int who, int v) {
            switch (what) {
                case 0:
                    face = v;
                    break;
                case 1:
                    lamp = v;
                    break;
                case 2:
                    stove = v;
                    break;
                case 3:
                    pose = v;
                    break;
                case 4:
                    number[who] = v;
                    break;
                default:
                    easel[who] = v;
                    break;
            }
        }

        void exchange(int one, int other) {
            int was = easel[one];
            easel[one] = easel[other];
            easel[other] = was;
        }

        void please(int who, int by) {
            pleased[who] = within(-MOST_PLEASED, pleased[who] + by, MOST_PLEASED);
        }

        void haveSides() {
            for (int who = 0; who < painters; who++) {
                had[who] |= 1 << sideOf(who);
            }
        }

        void move(int turn, int step) {
            face = (face + turn) % EASELS;
            for (int who = 0; who < painters; who++) {
                easel[who] = (easel[who] + step) % EASELS;
            }
            pose++;
        }

        int sum() {
            int sum = 0;
            for (int who = 0; who < painters; who++) {
                sum += pleased[who];
            }
            return sum;
        }

        int leastPleased() {
            int least = NONE;
            for (int who = 0; who < painters; who++) {
                if (least == NONE || pleased[who] < pleased[least]) {
                    least = who;
                }
            }
            return least;
        }

        int least() {
            int who = leastPleased();
            return who == NONE ? 0 : pleased[who];
        }
    }

    /** What one painter sees, and what the rule tells of it, before the kinds make of it what they do. */
    private static final class Sight {
        final int[] names = new int[NAMES];
        private final int[] stack = new int[MOST_WAITING];
        private int views = 0;
        private int warms = 0;
        private int minds = 0;

        /** Turns to one painter, by the ring's own rule. */
        void see(Ring ring, int who, Text[] texts) {
            int at = ring.easel[who];
            names[SIDE] = ring.sideOf(who);
            names[LAMP] = Ring.awayOf(at, ring.lamp);
            names[STOVE] = Ring.awayOf(at, ring.stove);
            names[NUMBER] = ring.number[who];
            names[POSE] = ring.pose;
            names[NEAR] = ring.nearOf(who);
            Text text = ring.rule >= 0 && ring.rule < texts.length ? texts[ring.rule] : null;
            if (text != null) {
                views = within(0, text.tell(VIEWS, names, stack), MOST_TOLD);
                warms = within(-MOST_TOLD, text.tell(WARMS, names, stack), MOST_TOLD);
                minds = within(-MOST_TOLD, text.tell(MINDS, names, stack), MOST_TOLD);
            }
        }

        int view(int kind) {
            return within(0, freeView(kind), MOST_TOLD);
        }

        int warmth(int kind) {
            return within(-MOST_TOLD, freeWarmth(kind), MOST_TOLD);
        }

        int minding(int kind) {
            return within(-MOST_TOLD, freeMinding(kind), MOST_TOLD);
        }

        // A kind goes on from the free value of the one that it is under: the bound is laid once, at last.

        private int freeView(int kind) {
            switch (kind) {
                case LEFT:
                    return leftView();
                case TALL:
                    return tallView();
                case LATE:
                    return names[POSE] < names[NUMBER] ? leftView() / 2 : leftView();
                case OLD:
                    return names[LAMP] > 3 ? 0 : tallView();
                case PAID:
                    return 0;
                default:
                    return views;
            }
        }

        private int leftView() {
            return names[SIDE] >= 1 && names[SIDE] <= 5 ? 2 * views : views;
        }

        private int tallView() {
            return views + 2;
        }

        private int freeWarmth(int kind) {
            switch (kind) {
                case TALL:
                    return tallWarmth();
                case LATE:
                    return warms - names[NUMBER];
                case OLD:
                    return 2 * tallWarmth();
                case PAID:
                    return 1;
                default:
                    return warms;
            }
        }

        private int tallWarmth() {
            return names[STOVE] < 2 ? -warms : warms;
        }

        private int freeMinding(int kind) {
            switch (kind) {
                case LEFT:
                case LATE:
                    return minds + 1;
                case OLD:
                    return names[NEAR];
                case TALL:
                case PAID:
                    return 0;
                default:
                    return minds;
            }
        }
    }

    /** The most of what is offered, and of like ones the first. */
    private static final class Most {
        int at = NONE;
        private int value = 0;
        private boolean isOffered = false;

        void clear() {
            at = NONE;
            value = 0;
            isOffered = false;
        }

        void offer(int place, int v) {
            if (!isOffered || v > value) {
                at = place;
                value = v;
                isOffered = true;
            }
        }

        /** An even what asks for the place, an odd one for the value there. */
        int atOrValue(int what) {
            return what % 2 == 0 ? at : value;
        }
    }

    /** A row of numbers; the room for it is always there, so that no call makes a new one. */
    private static final class Sheet {
        int sort = MISSING;
        int size = 0;
        final int[] items = new int[MOST_ITEMS];

        boolean isMissing() {
            return sort == MISSING;
        }

        void become(int ofSort, int n) {
            sort = ofSort;
            size = n;
            Arrays.fill(items, 0);
        }

        /** Written with a difference, as i + n may wrap. */
        boolean hasItems(int i, int n) {
            return i >= 0 && n >= 0 && i <= size && n <= size - i;
        }

        void put(int i, int v) {
            if (sort == BYTES) {
                items[i] = (byte) v;
            } else if (sort == SHORTS) {
                items[i] = (short) v;
            } else {
                items[i] = v;
            }
        }
    }

    /** A text that was read: for each part the code in which operands stand ahead of their sign. */
    private static final class Text {
        private final int[] code;
        private final int[] ends;

        Text(int[] code, int[] ends) {
            this.code = code;
            this.ends = ends;
        }

        int tell(int part, int[] names, int[] stack) {
            int from = part == 0 ? 0 : ends[part - 1];
            int top = 0;
            for (int i = from; i < ends[part]; i++) {
                int c = code[i];
                if (c >= -NAMES) {
                    if (top < stack.length) {
                        stack[top] = c >= 0 ? c : names[-1 - c];
                        top++;
                    }
                } else if (c == NOT || c == MINUS) {
                    if (top >= 1) {
                        stack[top - 1] = turned(c, stack[top - 1]);
                    }
                } else if (top >= 2) {
                    top--;
                    stack[top - 1] = joined(c, stack[top - 1], stack[top]);
                }
            }
            return top >= 1 ? stack[top - 1] : 0;
        }

        private static int turned(int sign, int a) {
            if (sign == MINUS) {
                return -a;
            }
            return a == 0 ? 1 : 0;
        }

        private static int joined(int sign, int a, int b) {
            switch (sign) {
                case OR:
                    return a != 0 || b != 0 ? 1 : 0;
                case AND:
                    return a != 0 && b != 0 ? 1 : 0;
                case BELOW:
                    return a < b ? 1 : 0;
                case LIKE:
                    return a == b ? 1 : 0;
                case PLUS:
                    return a + b;
                case LESS_BY:
                    return a - b;
                default:
                    return a * b;
            }
        }
    }

    /** The tape, and the reading of it token by token; it stops at the first fault. */
    private static final class Reader {
        private static final int END = 256, WRONG = 257, DIGITS = 258, NAME = 259;
        private static final int KEY_VIEWS = 260, KEY_WARMS = 261, KEY_MINDS = 262;
        private static final int KEY_OR = 263, KEY_AND = 264, KEY_NOT = 265;

        int size = 0;
        int fault = NONE;
        private final int[] tape = new int[TAPE];
        private int at = 0;
        /** A sign is its own byte, all else is one of the numbers above. */
        private int token = END;
        private int tokenAt = 0;
        private int value = 0;
        private final int[] code = new int[TAPE];
        private int codeSize = 0;

        void add(int letter) {
            if (size < TAPE) {
                tape[size] = letter;
                size++;
            }
        }

        /** The tape's text, or null and its fault; either way the tape is empty then. */
        Text read() {
            at = 0;
            codeSize = 0;
            fault = NONE;
            int[] ends = new int[PARTS];
            next();
            boolean fine = true;
            for (int part = 0; part < PARTS && fine; part++) {
                fine = expect(KEY_VIEWS + part) && readEither(0) && expect(';');
                ends[part] = codeSize;
            }
            fine = fine && expect(END);
            size = 0;
            return fine ? new Text(Arrays.copyOf(code, codeSize), ends) : null;
        }

        /** Whoever hears false reads no further, so that this is the first fault. */
        private boolean fail() {
            fault = tokenAt;
            return false;
        }

        private boolean expect(int due) {
            if (token != due) {
                return fail();
            }
            next();
            return true;
        }

        private boolean put(int c) {
            if (codeSize < TAPE) {
                code[codeSize] = c;
                codeSize++;
            }
            return true;
        }

        // Each of these reads one thing of the grammar; open tells how many ( , not, - wait for their end.

        private boolean readEither(int open) {
            boolean fine = readBoth(open);
            for (int i = 0; i < TAPE && fine && token == KEY_OR; i++) {
                next();
                fine = readBoth(open) && put(OR);
            }
            return fine;
        }

        private boolean readBoth(int open) {
            boolean fine = readNot(open);
            for (int i = 0; i < TAPE && fine && token == KEY_AND; i++) {
                next();
                fine = readNot(open) && put(AND);
            }
            return fine;
        }

        private boolean readNot(int open) {
            if (token == KEY_NOT) {
                if (open >= MOST_OPEN) {
                    return fail();
                }
                next();
                return readNot(open + 1) && put(NOT);
            }
            if (!readSum(open)) {
                return false;
            }
            if (token != '<' && token != '=') {
                return true;
            }
            int sign = token == '<' ? BELOW : LIKE;
            next();
            return readSum(open) && put(sign);
        }

        private boolean readSum(int open) {
            boolean fine = readTerm(open);
            for (int i = 0; i < TAPE && fine && (token == '+' || token == '-'); i++) {
                int sign = token == '+' ? PLUS : LESS_BY;
                next();
                fine = readTerm(open) && put(sign);
            }
            return fine;
        }

        private boolean readTerm(int open) {
            boolean fine = readOne(open);
            for (int i = 0; i < TAPE && fine && token == '*'; i++) {
                next();
                fine = readOne(open) && put(TIMES);
            }
            return fine;
        }

        private boolean readOne(int open) {
            if (token == DIGITS || token == NAME) {
                put(value);
                next();
                return true;
            }
            if ((token != '-' && token != '(') || open >= MOST_OPEN) {
                return fail();
            }
            boolean isMinus = token == '-';
            next();
            if (isMinus) {
                return readOne(open + 1) && put(MINUS);
            }
            return readEither(open + 1) && expect(')');
        }

        private void next() {
            for (int i = 0; i < TAPE && at < size && (tape[at] == ' ' || tape[at] == '\n'); i++) {
                at++;
            }
            tokenAt = at;
            if (at >= size) {
                token = END;
            } else if (isLetter(tape[at])) {
                nextWord();
            } else if (isDigit(tape[at])) {
                nextNumber();
            } else {
                token = isSign(tape[at]) ? tape[at] : WRONG;
                at++;
            }
        }

        private void nextNumber() {
            token = DIGITS;
            value = 0;
            for (int i = 0; i < TAPE && at < size && isDigit(tape[at]); i++) {
                value = 10 * value + tape[at] - '0';
                at++;
            }
            if (at - tokenAt > 4) {
                token = WRONG;
            }
        }

        private void nextWord() {
            for (int i = 0; i < TAPE && at < size && isLetter(tape[at]); i++) {
                at++;
            }
            token = WRONG;
            mayBe("views", KEY_VIEWS, 0);
            mayBe("warms", KEY_WARMS, 0);
            mayBe("minds", KEY_MINDS, 0);
            mayBe("or", KEY_OR, 0);
            mayBe("and", KEY_AND, 0);
            mayBe("not", KEY_NOT, 0);
            mayBe("side", NAME, -1 - SIDE);
            mayBe("lamp", NAME, -1 - LAMP);
            mayBe("stove", NAME, -1 - STOVE);
            mayBe("number", NAME, -1 - NUMBER);
            mayBe("pose", NAME, -1 - POSE);
            mayBe("near", NAME, -1 - NEAR);
        }

        /** The letters from tokenAt to at are a token with a value, if they are the word. */
        private void mayBe(String word, int is, int worth) {
            int alike = 0;
            for (int i = 0; i < word.length() && tokenAt + i < at; i++) {
                if (tape[tokenAt + i] == word.charAt(i)) {
                    alike++;
                }
            }
            if (alike == word.length() && at - tokenAt == alike) {
                token = is;
                value = worth;
            }
        }

        private static boolean isLetter(int b) {
            return b >= 'a' && b <= 'z';
        }

        private static boolean isDigit(int b) {
            return b >= '0' && b <= '9';
        }

        private static boolean isSign(int b) {
            return b == '(' || b == ')' || b == ';' || b == '+' || b == '-' || b == '*' || b == '<' || b == '=';
        }
    }
}
