import java.util.Arrays;

/** A harvest that is hidden by singing it; the document's promises 1 to 34. */
public final class SungHarvest {
    public static final int NONE = -1, BAD = -2, STATE = -3, FULL = -4;
    public static final long NO = Long.MIN_VALUE;

    private static final int LACKING = -5;
    private static final int NONE_BELOW = -10001;
    private static final int NOTHING = -11;
    private static final int CAST = -12;
    private static final int PLACE = -13;
    private static final int SIZE = -14;

    private static final int PARTS = 8;
    private static final int ALL_PARTS = 255;
    private static final int SINGERS = 6;
    private static final int KINDS = 7;
    private static final int VILLAGES = 6;
    private static final int TAPES = 6;
    private static final int MOST_V = 9;
    private static final int MOST_MEMORY = 99;
    private static final int MOST_SACKS = 99;
    private static final int MOST_COUNTED = 9999;
    private static final int MOST_DAYS = 60;
    private static final int MOST_SEEN_DAYS = 12;
    private static final int MOST_ODDS_DAYS = 20;
    private static final int ROW_LENGTH = 4;

    private static final int BASS = 1;
    private static final int CHILD = 2;
    private static final int OLD = 3;
    private static final int DESERTER = 4;
    private static final int HUMMER = 5;
    private static final int TOLD = 6;
    /** The KIND above each KIND; SINGER stands above itself, so that going up never leaves the KINDS. */
    private static final int[] ABOVE = {0, 0, 0, 0, BASS, CHILD, OLD};

    private final Band now = new Band();
    private final Band imagedBand = new Band();
    private final Hand hand = new Hand();
    private final Hand imagedHand = new Hand();
    private boolean hasImage;
    private final Foresight foresight = new Foresight();
    private final Text text = new Text();
    private int villageCount;
    private final Performance performance = new Performance();
    private final Tape[] tapes = new Tape[TAPES];

    public SungHarvest() {
        for (int t = 0; t < TAPES; t++) {
            tapes[t] = new Tape();
        }
    }

    // ---- singers, parts, villages

    public int singer(int kind, int v, int parts, int memory) {
        if (!within(kind, KINDS - 1)) {
            return NONE;
        }
        if (!within(v, MOST_V) || !within(parts, ALL_PARTS) || !within(memory, MOST_MEMORY)) {
            return BAD;
        }
        return now.enter(kind, v, parts, memory);
    }

    public int of(int singer, int what) {
        if (!now.has(singer)) {
            return NONE_BELOW;
        }
        switch (what) {
            case 0: return now.kinds[singer];
            case 1: return now.vs[singer];
            case 2: return now.held[singer];
            case 3: return now.memories[singer];
            case 4: return now.isHere(singer) ? 0 : 1;
            case 5: return now.forgot[singer];
            case 6: return now.strain(singer);
            case 7: return foresight.fitting(now, hand, singer, true, false);
            case 8: return foresight.fitting(now, hand, singer, true, true);
            default: return NONE_BELOW;
        }
    }

    public int part(int part, int what) {
        if (!within(part, PARTS - 1)) {
            return NONE;
        }
        switch (what) {
            case 0: return now.stock[part];
            case 1: return bit(now.kept(), part);
            case 2: return foresight.lost(now, part, NONE);
            case 3: return foresight.heir(now, part);
            case 4: return now.holders(part);
            default: return NONE;
        }
    }

    public int set(int singer, int what, int n) {
        if (!now.has(singer) || !within(what, 1)) {
            return NONE;
        }
        if (!within(n, what == 0 ? ALL_PARTS : MOST_MEMORY)) {
            return BAD;
        }
        int[] changed = what == 0 ? now.held : now.memories;
        int was = changed[singer];
        changed[singer] = n;
        return was;
    }

    public int away(int singer, boolean is) {
        if (!now.has(singer)) {
            return NONE;
        }
        int was = bit(now.absent, singer);
        now.putAway(singer, is);
        return was;
    }

    public int sacks(int part, int n) {
        if (!within(part, PARTS - 1)) {
            return NONE;
        }
        if (!within(n, MOST_SACKS)) {
            return BAD;
        }
        int was = now.stock[part];
        now.stock[part] = n;
        return was;
    }

    public int teach(int singer, int other, int part) {
        if (!now.has(singer) || !now.has(other) || !within(part, PARTS - 1)) {
            return NONE;
        }
        if (singer == other) {
            return BAD;
        }
        if (!now.isHere(singer) || !now.isHere(other) || bit(now.held[other], part) == 0) {
            return STATE;
        }
        now.held[singer] |= 1 << part;
        return Integer.bitCount(now.held[singer]);
    }

    public int row(int singer, int part, int n) {
        if (!now.has(singer) || !within(part, ROW_LENGTH - 1)) {
            return NONE;
        }
        if (!within(n, 9)) {
            return BAD;
        }
        if (now.kinds[singer] != TOLD) {
            return STATE;
        }
        int place = singer * ROW_LENGTH + part;
        int was = now.rows[place];
        now.rows[place] = n;
        return was;
    }

    public int feed(int sign) {
        if (!within(sign, 127)) {
            return BAD;
        }
        return text.add(sign) ? text.length : FULL;
    }

    public int village() {
        if (villageCount >= VILLAGES) {
            return FULL;
        }
        Village village = text.toVillage();
        int fault = text.at;
        text.length = 0;
        if (village == null) {
            return -10 - fault;
        }
        now.holding = village;
        return villageCount++;
    }

    public int told(int what) {
        switch (what) {
            case 0: return now.day;
            case 1: return now.anew();
            case 2: return now.kept();
            case 3: return now.sacksKept();
            case 4: return now.safe();
            case 5: return now.absent;
            default: return NONE;
        }
    }

    // ---- days, choirs

    public int pass(int n) {
        if (!within(n, MOST_DAYS)) {
            return BAD;
        }
        if (now.day + n > MOST_COUNTED) {
            return STATE;
        }
        for (int d = 0; d < n; d++) {
            now.goDay(MOST_COUNTED);
        }
        return now.day;
    }

    public int on(int n, int what) {
        boolean ofMemory = what >= 10 && what < 20 && now.has(what - 10);
        boolean ofHeld = what >= 20 && now.has(what - 20);
        if (what != 0 && what != 1 && !ofMemory && !ofHeld) {
            return NONE;
        }
        if (!within(n, MOST_DAYS)) {
            return BAD;
        }
        Band then = foresight.after(now, n);
        if (ofMemory) {
            return then.memories[what - 10];
        }
        if (ofHeld) {
            return then.held[what - 20];
        }
        return what == 0 ? then.kept() : then.sacksKept();
    }

    public int choir(int parts, int what) {
        if (!within(what, 1)) {
            return NONE;
        }
        if (!within(parts, ALL_PARTS)) {
            return BAD;
        }
        return now.fewest(parts, what == 1);
    }

    // ---- seen, odds

    public int see(int singer, int n, int memory) {
        if (singer == -1) {
            hand.seenCount = 0;
            return 0;
        }
        if (!now.has(singer)) {
            return NONE;
        }
        if (!within(n, MOST_SEEN_DAYS) || !within(memory, MOST_MEMORY)) {
            return BAD;
        }
        return hand.addSeen(singer, n, memory);
    }

    public int can(int singer, int what) {
        if (!now.has(singer) || !within(what, 1)) {
            return NONE;
        }
        return foresight.fitting(now, hand, singer, false, what == 1);
    }

    public long odds(int grain, int n, int part) {
        if (!within(grain, PARTS - 1) || !within(n, MOST_ODDS_DAYS) || !within(part, 1)) {
            return NO;
        }
        return fraction(foresight.keptWithoutOne(now, grain, n), now.countHere(), part);
    }

    public long mean(int n, int part) {
        if (!within(n, MOST_DAYS) || !within(part, 1)) {
            return NO;
        }
        Band then = foresight.after(now, n);
        return fraction(then.sacksKept(), Integer.bitCount(then.kept()), part);
    }

    // ---- plans, books

    public int plan(int what, int singer) {
        if (what == -1) {
            hand.planCount = 0;
            return 0;
        }
        if (!within(what, 3) || what != 0 && !now.has(singer)) {
            return NONE;
        }
        return hand.addPlan(what, what == 0 ? 0 : singer);
    }

    public int ends(int what) {
        if (!within(what, 1)) {
            return NONE;
        }
        Band then = foresight.behindPlan(now, hand);
        return what == 0 ? then.kept() : then.forgotByAll();
    }

    public int book(int part, int sacks) {
        if (part == -1) {
            hand.bookCount = 0;
            return 0;
        }
        if (!within(part, PARTS - 1)) {
            return NONE;
        }
        if (!within(sacks, MOST_SACKS)) {
            return BAD;
        }
        return hand.addBook(part, sacks);
    }

    public int looked() {
        return hand.firstOtherwise(now.stock);
    }

    // ---- judging, the image, acts, tapes

    public int judge(int tape, int i) {
        if (!within(tape, TAPES - 1)) {
            return NONE;
        }
        Tape told = tapes[tape];
        if (told.sort != Tape.EMPTY && told.sort != Tape.BYTES) {
            return CAST;
        }
        return told.firstOtherwise(i, now.stock);
    }

    public int image() {
        imagedBand.become(now);
        imagedHand.become(hand);
        hasImage = true;
        return now.size;
    }

    public int undo() {
        if (!hasImage) {
            return STATE;
        }
        now.become(imagedBand);
        hand.become(imagedHand);
        return now.size;
    }

    public int act(int singer, int act, int x) {
        performance.clear();
        if (!now.has(singer) || !within(act, 2)) {
            return 0;
        }
        return performance.begin(now, singer, act, x);
    }

    public int trace(int i) {
        return within(i, performance.keptCount() - 1) ? performance.ran[i] : NONE;
    }

    public int taken(int singer, int k) {
        if (!within(k, KINDS - 1)) {
            return BAD;
        }
        if (!now.has(singer)) {
            return NOTHING;
        }
        int kind = now.kinds[singer];
        return isUnder(kind, k) ? kind : CAST;
    }

    public int count(int what) {
        switch (what) {
            case 0: return now.size;
            case 1: return villageCount;
            case 2: return hand.seenCount;
            case 3: return hand.planCount;
            case 4: return hand.bookCount;
            case 5: return text.length;
            case 6: return performance.ranCount;
            default: return BAD;
        }
    }

    public int tape(int tape, int sort, int n) {
        if (!within(tape, TAPES - 1)) {
            return NONE;
        }
        if (sort == Tape.EMPTY) {
            tapes[tape].lay(Tape.EMPTY, 0);
            return 1;
        }
        if (!within(sort, Tape.BOOLEANS) || n > Tape.LONGEST) {
            return BAD;
        }
        if (n < 0) {
            return SIZE;
        }
        tapes[tape].lay(sort, n);
        return 1;
    }

    public int item(int tape, int i, long v) {
        if (!within(tape, TAPES - 1)) {
            return NONE;
        }
        Tape laid = tapes[tape];
        if (laid.sort == Tape.EMPTY) {
            return NOTHING;
        }
        if (!within(i, laid.length - 1)) {
            return PLACE;
        }
        laid.items[i] = laid.cut(v);
        return 1;
    }

    public long read(int tape, int i) {
        if (!within(tape, TAPES - 1) || !within(i, tapes[tape].length - 1)) {
            return NO;
        }
        return tapes[tape].items[i];
    }

    public int shift(int tape, int i, int other, int j, int n) {
        if (!within(tape, TAPES - 1) || !within(other, TAPES - 1)) {
            return NONE;
        }
        Tape from = tapes[tape];
        Tape to = tapes[other];
        if (from.sort == Tape.EMPTY || to.sort == Tape.EMPTY) {
            return NOTHING;
        }
        if (from.sort != to.sort) {
            return CAST;
        }
        if (!from.spans(i, n) || !to.spans(j, n)) {
            return PLACE;
        }
        System.arraycopy(from.items, i, to.items, j, n);
        return n;
    }

    private static boolean within(int n, int most) {
        return n >= 0 && n <= most;
    }

    private static int bit(int bits, int place) {
        return bits >> place & 1;
    }

    private static boolean isUnder(int kind, int above) {
        int at = kind;
        for (int k = 0; k < KINDS && at != above; k++) {
            at = ABOVE[at];
        }
        return at == above;
    }

    /** In lowest terms: part 0 above, 1 below the line; NO, if nothing stands below it. */
    private static long fraction(int above, int below, int part) {
        if (below <= 0) {
            return NO;
        }
        int divisor = below;
        int rest = above;
        for (int k = 0; k < 100 && rest != 0; k++) {
            int next = divisor % rest;
            divisor = rest;
            rest = next;
        }
        if (divisor == 0) {
            return NO;
        }
        return part == 0 ? above / divisor : below / divisor;
    }

    /** SACKS, SINGERS, DAY and the VILLAGE that holds: all that a DAY looks at, so that what is asked can go on in a copy. */
    private static final class Band {
        private static final int ANEW_WITHOUT = 50;

        int size;
        int day;
        int absent;
        Village holding;
        final int[] stock = new int[PARTS];
        final int[] kinds = new int[SINGERS];
        final int[] vs = new int[SINGERS];
        final int[] held = new int[SINGERS];
        final int[] memories = new int[SINGERS];
        final int[] forgot = new int[SINGERS];
        final int[] rows = new int[SINGERS * ROW_LENGTH];
        private final int[] strains = new int[SINGERS];
        private final int[] letters = new int[Village.LETTER_COUNT];

        Band() {
            Arrays.fill(stock, 10);
        }

        void become(Band other) {
            size = other.size;
            day = other.day;
            absent = other.absent;
            holding = other.holding;
            System.arraycopy(other.stock, 0, stock, 0, PARTS);
            System.arraycopy(other.kinds, 0, kinds, 0, SINGERS);
            System.arraycopy(other.vs, 0, vs, 0, SINGERS);
            System.arraycopy(other.held, 0, held, 0, SINGERS);
            System.arraycopy(other.memories, 0, memories, 0, SINGERS);
            System.arraycopy(other.forgot, 0, forgot, 0, SINGERS);
            System.arraycopy(other.rows, 0, rows, 0, SINGERS * ROW_LENGTH);
        }

        /** All that is one's own is put here, so that nothing hangs on what this place held before. */
        int enter(int kind, int v, int parts, int memory) {
            if (size >= SINGERS) {
                return FULL;
            }
            int p = size;
            kinds[p] = kind;
            vs[p] = v;
            held[p] = parts;
            memories[p] = memory;
            forgot[p] = 0;
            for (int d = 0; d < ROW_LENGTH; d++) {
                rows[p * ROW_LENGTH + d] = 0;
            }
            putAway(p, false);
            size++;
            return p;
        }

        boolean has(int p) {
            return p >= 0 && p < size;
        }

        boolean isHere(int p) {
            return bit(absent, p) == 0;
        }

        void putAway(int p, boolean is) {
            absent = is ? absent | 1 << p : absent & ~(1 << p);
        }

        int countHere() {
            return size - Integer.bitCount(absent);
        }

        int anew() {
            return holding == null ? ANEW_WITHOUT : holding.anew;
        }

        int kept() {
            return sungBy(~absent, false);
        }

        int safe() {
            return sungBy(~absent, true);
        }

        int sacksKept() {
            int kept = kept();
            int sum = 0;
            for (int part = 0; part < PARTS; part++) {
                sum += bit(kept, part) * stock[part];
            }
            return sum;
        }

        int holders(int part) {
            int holders = 0;
            for (int p = 0; p < size; p++) {
                if (isHere(p)) {
                    holders += bit(held[p], part);
                }
            }
            return holders;
        }

        int forgotByAll() {
            int sum = 0;
            for (int p = 0; p < size; p++) {
                sum += forgot[p];
            }
            return sum;
        }

        /** The sets go up, so that of several that are as few the least is met first. */
        int fewest(int parts, boolean twofold) {
            int best = LACKING;
            for (int set = 0; set < 1 << size; set++) {
                boolean fewer = best == LACKING || Integer.bitCount(set) < Integer.bitCount(best);
                if (fewer && (set & absent) == 0 && (parts & ~sungBy(set, twofold)) == 0) {
                    best = set;
                }
            }
            return best;
        }

        /** The PARTS that one of a set of SINGERS HOLDS (twofold: two of them). */
        private int sungBy(int set, boolean twofold) {
            int once = 0;
            int twice = 0;
            for (int p = 0; p < size; p++) {
                if (bit(set, p) == 1) {
                    twice |= once & held[p];
                    once |= held[p];
                }
            }
            return twofold ? twice : once;
        }

        int strain(int p) {
            int sum = sum(p);
            switch (kinds[p]) {
                case BASS: return sum + vs[p];
                case CHILD: return sum / 2;
                case OLD: return sum - 3 * sharers(p);
                case DESERTER: return (sum + vs[p]) * (Integer.bitCount(held[p]) > 4 ? 2 : 1);
                case HUMMER: return sum / 2 - (day % 2 == 1 ? vs[p] : 0);
                case TOLD: return sum - 3 * sharers(p) + rows[p * ROW_LENGTH + day % ROW_LENGTH];
                default: return sum;
            }
        }

        private int sum(int p) {
            int parts = Integer.bitCount(held[p]);
            if (holding == null) {
                return 2 * parts;
            }
            letters[0] = p;
            letters[1] = kinds[p];
            letters[2] = vs[p];
            letters[3] = parts;
            letters[4] = memories[p] / 10;
            letters[5] = day % 10;
            return 2 * parts + holding.weigh(letters);
        }

        private int sharers(int p) {
            int sharers = 0;
            for (int other = 0; other < size; other++) {
                if (other != p && isHere(other) && (held[other] & held[p]) != 0) {
                    sharers++;
                }
            }
            return sharers;
        }

        /** FORGOT has a limit only when a DAY really goes, not in what is asked. */
        void goDay(int mostForgot) {
            for (int p = 0; p < size; p++) {
                if (isHere(p)) {
                    strains[p] = strain(p);
                }
            }
            for (int p = 0; p < size; p++) {
                if (isHere(p)) {
                    fade(p, mostForgot);
                }
            }
            day++;
        }

        private void fade(int p, int mostForgot) {
            int left = Math.max(0, Math.min(MOST_MEMORY, memories[p] - strains[p]));
            if (left == 0 && held[p] != 0) {
                held[p] &= held[p] - 1;
                forgot[p] = Math.min(mostForgot, forgot[p] + 1);
                left = anew();
            }
            memories[p] = left;
        }
    }

    /** What is asked of days to come: it goes on in a copy, made once and used again. */
    private static final class Foresight {
        private static final int UNBOUNDED = 1000000;

        private final Band then = new Band();

        Band after(Band now, int days) {
            then.become(now);
            goOn(days);
            return then;
        }

        private void goOn(int days) {
            for (int d = 0; d < days; d++) {
                then.goDay(UNBOUNDED);
            }
        }

        /** LOST, if the one who is taught (NONE: nobody) HOLDS the PART now, too. */
        int lost(Band now, int part, int taught) {
            then.become(now);
            if (taught != NONE) {
                then.held[taught] |= 1 << part;
            }
            for (int d = 0; d <= MOST_DAYS; d++) {
                if (bit(then.kept(), part) == 0) {
                    return d;
                }
                then.goDay(UNBOUNDED);
            }
            return LACKING;
        }

        int heir(Band now, int part) {
            int longest = lost(now, part, NONE);
            int heir = LACKING;
            for (int p = 0; p < now.size && longest != LACKING; p++) {
                if (now.isHere(p) && bit(now.held[p], part) == 0) {
                    int lost = lost(now, part, p);
                    if (lost == LACKING || lost > longest) {
                        longest = lost;
                        heir = p;
                    }
                }
            }
            return heir;
        }

        /** How many numbers there are that one's MEMORY (or v) may be by all of SEEN, or the least of them. */
        int fitting(Band now, Hand hand, int singer, boolean byMemory, boolean least) {
            int most = byMemory ? MOST_MEMORY : MOST_V;
            int fitting = 0;
            for (int n = 0; n <= most; n++) {
                then.become(now);
                int[] guessed = byMemory ? then.memories : then.vs;
                guessed[singer] = n;
                if (seenIsSo(hand)) {
                    if (least) {
                        return n;
                    }
                    fitting++;
                }
            }
            return least ? LACKING : fitting;
        }

        private boolean seenIsSo(Hand hand) {
            int last = hand.lastSeenDay();
            for (int d = 0; d < last; d++) {
                if (!hand.agrees(d, then.memories)) {
                    return false;
                }
                then.goDay(UNBOUNDED);
            }
            return hand.agrees(last, then.memories);
        }

        /** By how many of those who are not AWAY now a PART is KEPT behind these DAYS, though that one is AWAY. */
        int keptWithoutOne(Band now, int part, int days) {
            int ways = 0;
            for (int p = 0; p < now.size; p++) {
                if (now.isHere(p)) {
                    then.become(now);
                    then.putAway(p, true);
                    goOn(days);
                    ways += bit(then.kept(), part);
                }
            }
            return ways;
        }

        Band behindPlan(Band now, Hand hand) {
            then.become(now);
            for (int r = 0; r < hand.planCount; r++) {
                int p = hand.planSinger[r];
                switch (hand.planWhat[r]) {
                    case 0: then.goDay(UNBOUNDED); break;
                    case 1: then.putAway(p, true); break;
                    case 2: then.putAway(p, false); break;
                    default: then.memories[p] = MOST_MEMORY; break;
                }
            }
            return then;
        }
    }

    /** What is told by hand: SEEN, the PLAN, the BOOK. */
    private static final class Hand {
        private static final int SEEN = 5;
        private static final int PLAN = 10;
        private static final int BOOK = 8;

        int seenCount;
        int planCount;
        int bookCount;
        private final int[] seenSinger = new int[SEEN];
        private final int[] seenDay = new int[SEEN];
        private final int[] seenMemory = new int[SEEN];
        final int[] planWhat = new int[PLAN];
        final int[] planSinger = new int[PLAN];
        private final int[] bookPart = new int[BOOK];
        private final int[] bookSacks = new int[BOOK];

        void become(Hand other) {
            seenCount = other.seenCount;
            planCount = other.planCount;
            bookCount = other.bookCount;
            System.arraycopy(other.seenSinger, 0, seenSinger, 0, SEEN);
            System.arraycopy(other.seenDay, 0, seenDay, 0, SEEN);
            System.arraycopy(other.seenMemory, 0, seenMemory, 0, SEEN);
            System.arraycopy(other.planWhat, 0, planWhat, 0, PLAN);
            System.arraycopy(other.planSinger, 0, planSinger, 0, PLAN);
            System.arraycopy(other.bookPart, 0, bookPart, 0, BOOK);
            System.arraycopy(other.bookSacks, 0, bookSacks, 0, BOOK);
        }

        int addSeen(int singer, int day, int memory) {
            if (seenCount >= SEEN) {
                return FULL;
            }
            seenSinger[seenCount] = singer;
            seenDay[seenCount] = day;
            seenMemory[seenCount] = memory;
            return ++seenCount;
        }

        int addPlan(int what, int singer) {
            if (planCount >= PLAN) {
                return FULL;
            }
            planWhat[planCount] = what;
            planSinger[planCount] = singer;
            return ++planCount;
        }

        int addBook(int part, int sacks) {
            if (bookCount >= BOOK) {
                return FULL;
            }
            bookPart[bookCount] = part;
            bookSacks[bookCount] = sacks;
            return ++bookCount;
        }

        int lastSeenDay() {
            int last = 0;
            for (int r = 0; r < seenCount; r++) {
                last = Math.max(last, seenDay[r]);
            }
            return last;
        }

        boolean agrees(int day, int[] memories) {
            for (int r = 0; r < seenCount; r++) {
                if (seenDay[r] == day && memories[seenSinger[r]] != seenMemory[r]) {
                    return false;
                }
            }
            return true;
        }

        int firstOtherwise(int[] stock) {
            for (int r = 0; r < bookCount; r++) {
                if (stock[bookPart[r]] != bookSacks[r]) {
                    return r;
                }
            }
            return LACKING;
        }
    }

    /** The CLAUSES as a program for a stack of truths: numbers below NOT are TESTS, HARD and EASY take the top away. */
    private static final class Village {
        static final String LETTERS = "pkvnmd";
        static final int LETTER_COUNT = 6;
        static final int PER_LETTER = 300;
        static final int PER_SIGN = 100;
        static final int NOT = 2000;
        static final int AND = 2001;
        static final int OR = 2002;
        static final int HARD = 3000;
        static final int EASY = 4000;

        private final int[] program;
        final int anew;

        Village(int[] program, int anew) {
            this.program = program;
            this.anew = anew;
        }

        /** What all hard and easy come to; the stack's top is the lowest bit, and 100 bytes never fill a long. */
        int weigh(int[] letters) {
            int sum = 0;
            long stack = 0;
            for (int step : program) {
                if (step < NOT) {
                    int compared = Integer.compare(letters[step / PER_LETTER], step % PER_SIGN);
                    stack = stack << 1 | (compared + 1 == step % PER_LETTER / PER_SIGN ? 1 : 0);
                } else if (step == NOT) {
                    stack ^= 1;
                } else if (step == AND) {
                    stack = stack >>> 1 & (stack | -2L);
                } else if (step == OR) {
                    stack = stack >>> 1 | stack & 1;
                } else {
                    int n = step >= EASY ? EASY - step : step - HARD;
                    sum += (stack & 1) == 1 ? n : 0;
                    stack >>>= 1;
                }
            }
            return sum;
        }
    }

    /** THE TEXT and its reader: only bytes with which a VILLAGE may go on are passed, so that a fault is always at 'at'. */
    private static final class Text {
        private static final int LONGEST = 100;
        private static final int CLAUSES = 10;
        private static final int DEEPEST = 4;
        /** In the order of what compare answers, -1, 0, 1. */
        private static final String SIGNS = "<=>";

        int length;
        int at;
        private final int[] bytes = new int[LONGEST];
        private final int[] program = new int[LONGEST];
        private int steps;
        private int anew;

        boolean add(int sign) {
            if (length >= LONGEST) {
                return false;
            }
            bytes[length++] = sign;
            return true;
        }

        /** null: there is a fault, at 'at'. */
        Village toVillage() {
            at = 0;
            steps = 0;
            anew = Band.ANEW_WITHOUT;
            for (int c = 0; c < CLAUSES; c++) {
                if (c > 0 && !takes(';') || !readsClause()) {
                    return null;
                }
                if (at == length) {
                    return new Village(Arrays.copyOf(program, steps), anew);
                }
            }
            return null;
        }

        private boolean readsClause() {
            int first = next();
            if (first != 'h' && first != 'e') {
                int n = takesWord("anew ") ? takeNumber() : -1;
                anew = n;
                return n >= 0;
            }
            int n = takesWord(first == 'h' ? "hard " : "easy ") ? takeNumber() : -1;
            if (n < 0 || !takes(' ') || !readsChoice(0)) {
                return false;
            }
            emit((first == 'h' ? Village.HARD : Village.EASY) + n);
            return true;
        }

        /** E, its T in a loop within a loop, so that a long row of them goes no deeper. */
        private boolean readsChoice(int depth) {
            for (int t = 0; t < LONGEST; t++) {
                if (!readsFactor(depth)) {
                    return false;
                }
                for (int f = 0; f < LONGEST && takes('&'); f++) {
                    if (!readsFactor(depth)) {
                        return false;
                    }
                    emit(Village.AND);
                }
                if (t > 0) {
                    emit(Village.OR);
                }
                if (!takes('|')) {
                    return true;
                }
            }
            return false;
        }

        private boolean readsFactor(int depth) {
            int first = next();
            if (first != '!' && first != '(') {
                return readsTest();
            }
            if (depth >= DEEPEST) {
                return false;
            }
            at++;
            if (first == '(') {
                return readsChoice(depth + 1) && takes(')');
            }
            if (!readsFactor(depth + 1)) {
                return false;
            }
            emit(Village.NOT);
            return true;
        }

        private boolean readsTest() {
            int letter = takeOneOf(Village.LETTERS);
            int sign = letter < 0 ? -1 : takeOneOf(SIGNS);
            int n = sign < 0 ? -1 : takeNumber();
            if (n < 0) {
                return false;
            }
            emit(letter * Village.PER_LETTER + sign * Village.PER_SIGN + n);
            return true;
        }

        private int takeNumber() {
            int n = -1;
            for (int k = 0; k < 2 && next() >= '0' && next() <= '9'; k++) {
                n = Math.max(n, 0) * 10 + next() - '0';
                at++;
            }
            return n;
        }

        private boolean takesWord(String word) {
            for (int k = 0; k < word.length(); k++) {
                if (!takes(word.charAt(k))) {
                    return false;
                }
            }
            return true;
        }

        private boolean takes(char sign) {
            if (next() != sign) {
                return false;
            }
            at++;
            return true;
        }

        private int takeOneOf(String signs) {
            int which = at < length ? signs.indexOf((char) bytes[at]) : -1;
            if (which >= 0) {
                at++;
            }
            return which;
        }

        private int next() {
            return at < length ? bytes[at] : -1;
        }

        /** Each step has a byte of its own, so that there is always room. */
        private void emit(int step) {
            if (steps < LONGEST) {
                program[steps++] = step;
            }
        }
    }

    /** One ACT and THE TRACE of the bodies that ran in it. */
    private static final class Performance {
        private static final int KEPT = 20;
        private static final int DEEPEST = 40;
        private static final int HUMS = 0;
        private static final int SINGS = 1;
        private static final int TELLS = 2;
        /** The bodies of each KIND for hums, sings, tells; 0: it has none. */
        private static final int[] BODIES = {
            10, 11, 12, 0, 20, 0, 30, 0, 0, 0, 0, 40, 50, 51, 0, 0, 0, 60, 71, 70, 0
        };

        final int[] ran = new int[KEPT];
        int ranCount;
        private int kind;
        private int i;
        private int v;

        void clear() {
            ranCount = 0;
        }

        int keptCount() {
            return Math.min(ranCount, KEPT);
        }

        int begin(Band band, int singer, int act, int x) {
            kind = band.kinds[singer];
            i = singer;
            v = band.vs[singer];
            return perform(kind, act, x, 0);
        }

        /** An ACT with the body of the first KIND from this one upward that has one. */
        private int perform(int from, int act, int x, int depth) {
            if (depth > DEEPEST) {
                return 0;
            }
            int owner = from;
            for (int k = 0; k < KINDS && BODIES[owner * 3 + act] == 0; k++) {
                owner = ABOVE[owner];
            }
            int body = BODIES[owner * 3 + act];
            if (ranCount < KEPT) {
                ran[ranCount] = body;
            }
            ranCount++;
            return run(body, ABOVE[owner], x, depth + 1);
        }

        private int run(int body, int above, int x, int depth) {
            switch (body) {
                case 10: return x + i;
                case 11: return perform(kind, HUMS, x, depth) - v;
                case 12: return perform(kind, SINGS, x, depth) * 2;
                case 20: return perform(above, SINGS, x, depth) ^ 6;
                case 30: return perform(above, HUMS, x * 3, depth);
                case 40: return perform(above, TELLS, x, depth) + perform(kind, SINGS, 1, depth);
                case 50: return -perform(above, HUMS, x, depth);
                case 51: return perform(above, SINGS, x + 1, depth);
                case 60: return perform(above, TELLS, x - i, depth);
                case 70: return perform(above, SINGS, x, depth) + perform(above, HUMS, 2, depth);
                case 71: return perform(above, HUMS, x, depth) ^ v;
                default: return 0;
            }
        }
    }

    /** A TAPE's items stand in longs, cut to what an item of its sort can be. */
    private static final class Tape {
        static final int EMPTY = -1;
        static final int BYTES = 0;
        static final int SHORTS = 1;
        static final int INTS = 2;
        static final int LONGS = 3;
        static final int BOOLEANS = 4;
        static final int LONGEST = 60;

        int sort = EMPTY;
        int length;
        final long[] items = new long[LONGEST];

        void lay(int newSort, int newLength) {
            sort = newSort;
            length = newLength;
            Arrays.fill(items, 0);
        }

        long cut(long v) {
            switch (sort) {
                case BYTES: return (byte) v;
                case SHORTS: return (short) v;
                case INTS: return (int) v;
                case LONGS: return v;
                default: return v == 0 ? 0 : 1;
            }
        }

        boolean spans(int from, int n) {
            return n >= 0 && from >= 0 && n <= length - from;
        }

        int firstOtherwise(int from, int[] stock) {
            if (from < 0) {
                return 100;
            }
            for (int part = 0; part < PARTS; part++) {
                if (from >= length - part) {
                    return 100 + part;
                }
                if (items[from + part] != stock[part]) {
                    return part;
                }
            }
            return LACKING;
        }
    }
}
