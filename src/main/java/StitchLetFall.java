/** A knitted piece of 48 loops: what hangs on what, what runs if a stitch is let fall, and how it is mended. */
public final class StitchLetFall {
    public static final int NONE = -1, BAD = -2, STATE = -3, FULL = -4;
    public static final long NO = -4611686018427387904L;

    private static final int NO_LOOP = -5, BAD_NUMBER = -7;
    private static final int NOTHING_THERE = -11, OUTSIDE = -12, UNLIKE = -13, BELOW_ZERO = -14;

    private static final int LOOPS = 48, ROWS = 8, PLACES = 6, MOST_PULL = 99, MOST_MORE = 9;
    private static final int LOOP = 0, PURL = 1, CROSSED = 2, JOINED = 3, THROWN = 4, BOUND = 5, A_ROW = 6;

    private static final int RUB = 0, MINUTES = 1, SEEN = 2, PARTS = 3;
    private static final int MOST_TEXTS = 6, MOST_TAPE = 160, MOST_BYTE = 255, MOST_SAID = 99, MOST_RUB = 999;
    private static final String FIRST_LAW = "rub 10 + more - face * 3 ; minutes 2 + more ; seen 1 + face ;";

    private static final int MISSING = -1, BYTES = 0, SHORTS = 1, INTS = 2, SHEETS = 4, MOST_SIZE = 48;
    private static final int MOST_KNITS = 16;

    private static final long LOT_TIMES = 48271, LOT_MODULO = 2147483647L;
    private static final int MOST_SEED = 99999, MOST_SEEDS = 50, HUNDRED = 100;

    private static final int MINUTES_A_ROW = 24, MINUTES_TO_GRAFT = 50;

    private final Piece piece = new Piece();
    private final Piece kept = new Piece();
    private boolean isKept;
    private final Tape tape = new Tape();
    private final Text[] texts = new Text[MOST_TEXTS];
    private int textCount;
    private final Fall fall = new Fall();
    private final Sheet[] sheets = new Sheet[SHEETS];
    private final long[] goneAlone = new long[LOOPS];

    public StitchLetFall() {
        for (int t = 0; t < MOST_TEXTS; t++) {
            texts[t] = new Text();
        }
        for (int s = 0; s < SHEETS; s++) {
            sheets[s] = new Sheet();
        }
        for (int i = 0; i < FIRST_LAW.length(); i++) {
            tape.add(FIRST_LAW.charAt(i));
        }
        readTape();
    }

    // ---- the law, loops

    public int count(int what) {
        switch (what) {
            case 0: return Long.bitCount(piece.pins);
            case 1: return Long.bitCount(piece.mends);
            case 2: return textCount;
            case 3: return piece.law;
            case 4: return tape.size;
            default: return BAD;
        }
    }

    public int feed(int n, int a, int b, int c, int d, int e) {
        boolean areBytes = isByte(a) && isByte(b) && isByte(c) && isByte(d) && isByte(e);
        if (!within(n, 1, 5) || !areBytes) {
            return BAD;
        }
        if (tape.size + n > MOST_TAPE) {
            return FULL;
        }
        tape.add(a);
        if (n > 1) {
            tape.add(b);
        }
        if (n > 2) {
            tape.add(c);
        }
        if (n > 3) {
            tape.add(d);
        }
        if (n > 4) {
            tape.add(e);
        }
        return tape.size;
    }

    public int text() {
        return readTape();
    }

    public int force(int t) {
        if (!within(t, 0, textCount - 1)) {
            return BAD;
        }
        int was = piece.law;
        piece.law = t;
        return was;
    }

    public int asks(int part, int c, int pull) {
        if (!isLoop(c)) {
            return NO_LOOP;
        }
        if (!within(part, 0, PARTS - 1) || !isPull(pull)) {
            return BAD_NUMBER;
        }
        return law().says(part, piece, c, pull);
    }

    public int knit(int c, int kind, int more) {
        if (!isLoop(c)) {
            return NO_LOOP;
        }
        if (!isKnit(kind, more)) {
            return BAD_NUMBER;
        }
        int was = piece.kinds[c];
        piece.become(c, kind, more);
        return was;
    }

    public int row(int r, int kind, int more) {
        if (!isRow(r)) {
            return NO_LOOP;
        }
        if (!isKnit(kind, more)) {
            return BAD_NUMBER;
        }
        int others = 0;
        for (int p = 0; p < PLACES; p++) {
            int c = r * PLACES + p;
            if (piece.kinds[c] != kind) {
                others++;
            }
            piece.become(c, kind, more);
        }
        return others;
    }

    public int told(int c, int what) {
        if (!isLoop(c)) {
            return NO_LOOP;
        }
        switch (what) {
            case 0: return piece.kinds[c];
            case 1: return piece.mores[c];
            case 2: return piece.placesBelow(c);
            case 3: return faceOf(piece.kinds[c]);
            case 4: return hasBit(piece.pins, c) ? 1 : 0;
            case 5: return hasBit(piece.mends, c) ? 1 : 0;
            default: return BAD_NUMBER;
        }
    }

    public int pin(int c, int is) {
        if (!isLoop(c)) {
            return NO_LOOP;
        }
        if (!within(is, 0, 1)) {
            return BAD_NUMBER;
        }
        int was = hasBit(piece.pins, c) ? 1 : 0;
        piece.pins = is == 1 ? piece.pins | bit(c) : piece.pins & ~bit(c);
        return was;
    }

    // ---- what hangs on what

    public long hangs(int c, int what) {
        if (!isLoop(c)) {
            return NO;
        }
        switch (what) {
            case 0: return piece.over(c);
            case 1: return hangingOn(c);
            case 2: return bearing(c);
            default: return NO;
        }
    }

    public long loose() {
        long bits = 0;
        for (int c = 0; c < LOOPS - PLACES; c++) {
            if (piece.over(c) == 0 && !piece.keeps(c)) {
                bits |= bit(c);
            }
        }
        return bits;
    }

    public int back(int c) {
        return isLoop(c) ? 1 + Long.bitCount(hangingOn(c)) : NO_LOOP;
    }

    // ---- what runs

    public int run(int c, int pull, int what) {
        if (!isLoop(c)) {
            return NO_LOOP;
        }
        if (!isPull(pull) || !within(what, 0, 3)) {
            return BAD_NUMBER;
        }
        drop(c, pull);
        switch (what) {
            case 0: return Long.bitCount(fall.gone);
            case 1: return lowestRow();
            case 2: return together(MINUTES);
            default: return together(SEEN);
        }
    }

    public long goes(int c, int pull, int what) {
        if (!isLoop(c) || !isPull(pull) || !within(what, 0, 1)) {
            return NO;
        }
        drop(c, pull);
        return what == 0 ? fall.gone : fall.stops;
    }

    public int left(int c, int pull, int at) {
        if (!isLoop(c) || !isLoop(at)) {
            return NO_LOOP;
        }
        if (!isPull(pull)) {
            return BAD_NUMBER;
        }
        drop(c, pull);
        return hasBit(fall.gone, at) ? fall.rests[at] : NONE;
    }

    public int most(int pull, int what) {
        if (!isPull(pull) || !within(what, 0, 1)) {
            return BAD;
        }
        int best = 0;
        int bestCount = -1;
        for (int c = 0; c < LOOPS; c++) {
            int n = drop(c, pull);
            if (n > bestCount) {
                best = c;
                bestCount = n;
            }
        }
        return what == 0 ? best : bestCount;
    }

    public int column(int p, int pull, int what) {
        if (!within(p, 0, PLACES - 1)) {
            return NO_LOOP;
        }
        if (!isPull(pull) || !within(what, 0, 1)) {
            return BAD_NUMBER;
        }
        long place = 0;
        for (int r = 0; r < ROWS; r++) {
            place |= bit(r * PLACES + p);
        }
        fall.runFrom(piece, law(), place, 0, pull);
        return Long.bitCount(what == 0 ? fall.gone : fall.gone & ~place);
    }

    public int line(int c, int n) {
        if (!isLoop(c)) {
            return NO_LOOP;
        }
        if (!within(n, 0, LOOPS)) {
            return BAD_NUMBER;
        }
        for (int pull = 0; pull <= MOST_PULL; pull++) {
            if (drop(c, pull) > n) {
                return pull;
            }
        }
        return NONE;
    }

    public int reach(int c, int other) {
        if (!isLoop(c) || !isLoop(other)) {
            return NO_LOOP;
        }
        for (int pull = 0; pull <= MOST_PULL; pull++) {
            drop(c, pull);
            if (hasBit(fall.gone, other)) {
                return pull;
            }
        }
        return NONE;
    }

    public int two(int pull, int what) {
        if (!isPull(pull) || !within(what, 0, 2)) {
            return BAD;
        }
        for (int c = 0; c < LOOPS; c++) {
            drop(c, pull);
            goneAlone[c] = fall.gone;
        }
        int first = 0;
        int second = 1;
        int most = -1;
        for (int a = 0; a < LOOPS; a++) {
            for (int b = a + 1; b < LOOPS; b++) {
                int n = dropBoth(a, b, pull);
                if (n > most) {
                    first = a;
                    second = b;
                    most = n;
                }
            }
        }
        switch (what) {
            case 0: return HUNDRED * first + second;
            case 1: return most;
            default: return most - Long.bitCount(goneAlone[first] | goneAlone[second]);
        }
    }

    public int all(int c) {
        if (!isLoop(c)) {
            return NO_LOOP;
        }
        int asMany = drop(c, MOST_PULL);
        int least = MOST_PULL;
        for (int pull = MOST_PULL - 1; pull >= 0 && drop(c, pull) >= asMany; pull--) {
            least = pull;
        }
        return least;
    }

    // ---- counted rows

    public int counts(int r, int what) {
        if (!isRow(r)) {
            return NO_LOOP;
        }
        switch (what) {
            case 0: return borneOf(r);
            case 1: return placesUnder(r);
            case 2: return unevenOf(r);
            default: return BAD_NUMBER;
        }
    }

    public int slip(int s) {
        int refusal = sheetRefusal(s, ROWS);
        if (refusal != 0) {
            return refusal;
        }
        for (int r = 1; r < ROWS; r++) {
            if (sheets[s].numbers[r] != placesUnder(r)) {
                return r;
            }
        }
        return NONE;
    }

    public int wrong() {
        long bits = loose();
        int rows = 0;
        for (int c = 0; c < LOOPS; c++) {
            if (hasBit(bits, c)) {
                rows |= 1 << c / PLACES;
            }
        }
        return rows;
    }

    // ---- pins, mending

    public int pinned(int c, int pull, int n, int what) {
        if (!isLoop(c)) {
            return NO_LOOP;
        }
        if (!isPull(pull) || !within(n, 0, LOOPS) || !within(what, 0, 2)) {
            return BAD_NUMBER;
        }
        if (dropPinned(c, pull, 0) <= n) {
            return what == 0 ? 0 : NONE;
        }
        // A pin on what doesn't go changes nothing, so only what went is tried.
        long tried = fall.gone & ~bit(c);
        for (int a = 0; a < LOOPS; a++) {
            if (hasBit(tried, a) && dropPinned(c, pull, bit(a)) <= n) {
                return what == 0 ? 1 : what == 1 ? a : NONE;
            }
        }
        for (int a = 0; a < LOOPS; a++) {
            for (int b = a + 1; b < LOOPS; b++) {
                if (hasBit(tried, a) && hasBit(tried, b) && dropPinned(c, pull, bit(a) | bit(b)) <= n) {
                    return what == 0 ? 2 : what == 1 ? a : b;
                }
            }
        }
        return NONE;
    }

    public int mending(int c, int pull, int what) {
        if (!isLoop(c)) {
            return NO_LOOP;
        }
        if (!isPull(pull) || !within(what, 0, 1)) {
            return BAD_NUMBER;
        }
        drop(c, pull);
        if (fall.gone == 0) {
            return what == 0 ? NONE : 0;
        }
        int way = 0;
        int least = together(MINUTES);
        int byRows = MINUTES_A_ROW * (ROWS - lowestRow());
        if (byRows < least) {
            way = 1;
            least = byRows;
        }
        int grafted = MINUTES_TO_GRAFT + Long.bitCount(fall.gone);
        if (grafted < least) {
            way = 2;
            least = grafted;
        }
        return what == 0 ? way : least;
    }

    public int mend(int c, int pull) {
        if (!isLoop(c)) {
            return NO_LOOP;
        }
        if (!isPull(pull)) {
            return BAD_NUMBER;
        }
        drop(c, pull);
        int fresh = Long.bitCount(fall.gone & ~piece.mends);
        piece.mends |= fall.gone;
        return fresh;
    }

    public int block() {
        int were = Long.bitCount(piece.mends);
        piece.mends = 0;
        return were;
    }

    public long seen() {
        long bits = 0;
        for (int c = 0; c < LOOPS; c++) {
            if (hasBit(piece.mends, c) && isUnlikeThoseBeside(c)) {
                bits |= bit(c);
            }
        }
        return bits;
    }

    public int slack(int c, int n) {
        if (!isLoop(c)) {
            return NO_LOOP;
        }
        if (!within(n, 0, 99)) {
            return BAD_NUMBER;
        }
        if (n == 0) {
            return 0;
        }
        int rowStart = c - c % PLACES;
        int drawn = 0;
        int givers = 0;
        for (int far = 1; far < PLACES; far++) {
            for (int side = -1; side <= 1; side += 2) {
                int giver = c + side * far;
                if (within(giver, rowStart, rowStart + PLACES - 1)) {
                    givers++;
                    drawn += piece.mores[giver];
                    if (drawn >= n) {
                        return givers;
                    }
                }
            }
        }
        return NONE;
    }

    // ---- rags

    public int judge(int s, int c, int pull) {
        int refusal = ragRefusal(s, c);
        if (refusal != 0) {
            return refusal;
        }
        if (!isPull(pull)) {
            return BAD_NUMBER;
        }
        drop(c, pull);
        return sheets[s].firstUnlike(fall.gone);
    }

    public long which(int s, int pull) {
        if (sheetRefusal(s, LOOPS) != 0 || !isPull(pull)) {
            return NO;
        }
        long bits = 0;
        for (int c = 0; c < LOOPS; c++) {
            drop(c, pull);
            if (sheets[s].firstUnlike(fall.gone) == NONE) {
                bits |= bit(c);
            }
        }
        return bits;
    }

    public int span(int s, int c, int what) {
        int refusal = ragRefusal(s, c);
        if (refusal != 0) {
            return refusal;
        }
        if (!within(what, 0, 1)) {
            return BAD_NUMBER;
        }
        for (int i = 0; i <= MOST_PULL; i++) {
            int pull = what == 0 ? i : MOST_PULL - i;
            drop(c, pull);
            if (sheets[s].firstUnlike(fall.gone) == NONE) {
                return pull;
            }
        }
        return NONE;
    }

    public int laws(int s, int c, int pull) {
        int refusal = ragRefusal(s, c);
        if (refusal != 0) {
            return refusal;
        }
        if (!isPull(pull)) {
            return BAD_NUMBER;
        }
        int bits = 0;
        for (int t = 0; t < textCount && t < MOST_TEXTS; t++) {
            fall.runFrom(piece, texts[t], bit(c), 0, pull);
            if (sheets[s].firstUnlike(fall.gone) == NONE) {
                bits |= 1 << t;
            }
        }
        return bits;
    }

    public int film(int s, int c, int pull) {
        if (!isSheet(s)) {
            return BAD;
        }
        if (!isLoop(c)) {
            return NO_LOOP;
        }
        if (!isPull(pull)) {
            return BAD_NUMBER;
        }
        drop(c, pull);
        sheets[s].become(INTS, LOOPS);
        for (int i = 0; i < LOOPS; i++) {
            sheets[s].put(i, hasBit(fall.gone, i) ? 1 : 0);
        }
        return LOOPS;
    }

    // ---- hands

    public int slips(int seed, int c, int pull, int hundredth) {
        if (!isLoop(c)) {
            return NO_LOOP;
        }
        if (!within(seed, 0, MOST_SEED) || !isPull(pull) || !within(hundredth, 0, HUNDRED)) {
            return BAD_NUMBER;
        }
        drop(c, pull);
        return missed(seed, hundredth);
    }

    public long odds(int seed, int seeds, int c, int pull, int hundredth, int part) {
        if (!within(seed, 0, MOST_SEED) || !within(seeds, 1, MOST_SEEDS) || !isLoop(c)) {
            return NO;
        }
        if (!isPull(pull) || !within(hundredth, 0, HUNDRED) || !within(part, 0, 1)) {
            return NO;
        }
        drop(c, pull);
        int clean = 0;
        for (int i = 0; i < seeds; i++) {
            if (missed(seed + i, hundredth) == 0) {
                clean++;
            }
        }
        int asked = part == 0 ? clean : seeds;
        int shared = commonDivisor(clean, seeds);
        return shared > 1 ? asked / shared : asked;
    }

    public int image() {
        kept.takeFrom(piece);
        isKept = true;
        return Long.bitCount(piece.pins);
    }

    public int restore() {
        if (!isKept) {
            return STATE;
        }
        piece.takeFrom(kept);
        return Long.bitCount(piece.pins);
    }

    // ---- the host

    public int sheet(int s, int sort, int n) {
        if (!isSheet(s) || !within(sort, MISSING, INTS)) {
            return BAD;
        }
        if (sort == MISSING) {
            sheets[s].become(MISSING, 0);
            return 1;
        }
        if (n > MOST_SIZE) {
            return BAD;
        }
        if (n < 0) {
            return BELOW_ZERO;
        }
        sheets[s].become(sort, n);
        return 1;
    }

    public int cell(int s, int i, int v) {
        if (!isSheet(s)) {
            return BAD;
        }
        if (sheets[s].isMissing()) {
            return NOTHING_THERE;
        }
        if (!within(i, 0, sheets[s].size - 1)) {
            return OUTSIDE;
        }
        sheets[s].put(i, v);
        return 1;
    }

    public int copy(int s, int i, int other, int j, int n) {
        if (!isSheet(s) || !isSheet(other)) {
            return BAD;
        }
        Sheet from = sheets[s];
        Sheet to = sheets[other];
        if (from.isMissing() || to.isMissing()) {
            return NOTHING_THERE;
        }
        if (from.sort != to.sort) {
            return UNLIKE;
        }
        if (!from.hasRoom(i, n) || !to.hasRoom(j, n)) {
            return OUTSIDE;
        }
        System.arraycopy(from.numbers, i, to.numbers, j, n);
        return n;
    }

    public int knits(int s, int sort, int at, int n) {
        if (!isSheet(s) || !within(sort, BYTES, INTS) || !within(n, 0, MOST_KNITS)) {
            return BAD;
        }
        Sheet from = sheets[s];
        if (from.isMissing()) {
            return NOTHING_THERE;
        }
        if (from.sort != sort) {
            return UNLIKE;
        }
        int became = 0;
        for (int k = 0; k < n; k++) {
            int i = at + 3 * k;
            if (!from.hasRoom(i, 3)) {
                return OUTSIDE;
            }
            if (knit(from.numbers[i], from.numbers[i + 1], from.numbers[i + 2]) >= 0) {
                became++;
            }
        }
        return became;
    }

    public int taken(int i, int kind) {
        if (!within(kind, LOOP, A_ROW)) {
            return BAD;
        }
        if (!within(i, 0, LOOPS + ROWS - 1)) {
            return OUTSIDE;
        }
        if (isLoop(i)) {
            return kind != A_ROW && isOne(piece.kinds[i], kind) ? i : UNLIKE;
        }
        int places = pinnedPlaces(i - LOOPS);
        if (places == 0) {
            return NOTHING_THERE;
        }
        return kind == A_ROW ? places : UNLIKE;
    }

    // ---- KINDS

    private static boolean goesThroughOwn(int kind) {
        return kind != CROSSED && kind != THROWN;
    }

    private static boolean goesThroughNext(int kind) {
        return kind == CROSSED || kind == JOINED;
    }

    private static int faceOf(int kind) {
        return kind == PURL ? 1 : 0;
    }

    private static int rubOf(int kind, int said, int more) {
        switch (kind) {
            case PURL:
            case BOUND: return said + more;
            case JOINED: return 2 * said;
            default: return said;
        }
    }

    /** Whether a LOOP of a KIND is one of the other KIND, too. */
    private static boolean isOne(int kind, int other) {
        return kind == other || other == LOOP || kind == JOINED && other == CROSSED || kind == BOUND && other == PURL;
    }

    // ---- numbers

    private static boolean within(int v, int least, int most) {
        return v >= least && v <= most;
    }

    private static boolean isLoop(int c) {
        return within(c, 0, LOOPS - 1);
    }

    private static boolean isRow(int r) {
        return within(r, 0, ROWS - 1);
    }

    private static boolean isPull(int pull) {
        return within(pull, 0, MOST_PULL);
    }

    private static boolean isByte(int v) {
        return within(v, 0, MOST_BYTE);
    }

    private static boolean isSheet(int s) {
        return within(s, 0, SHEETS - 1);
    }

    private static boolean isKnit(int kind, int more) {
        return within(kind, LOOP, BOUND) && within(more, 0, MOST_MORE);
    }

    private static long bit(int c) {
        return 1L << c;
    }

    private static boolean hasBit(long bits, int c) {
        return (bits >> c & 1) != 0;
    }

    private static int bounded(int v, int most) {
        return Math.max(0, Math.min(most, v));
    }

    /** The greatest number by which both can be divided; b is 1 at least. */
    private static int commonDivisor(int a, int b) {
        for (int d = b; d > 1; d--) {
            if (a % d == 0 && b % d == 0) {
                return d;
            }
        }
        return 1;
    }

    // ---- what the calls share

    private Text law() {
        return texts[piece.law];
    }

    private int readTape() {
        if (textCount >= MOST_TEXTS) {
            return FULL;
        }
        int place = tape.readInto(texts[textCount]);
        tape.size = 0;
        if (place >= 0) {
            return -100 - place;
        }
        return textCount++;
    }

    /** Lets one go: how many go. */
    private int drop(int c, int pull) {
        return fall.runFrom(piece, law(), bit(c), 0, pull);
    }

    private int dropPinned(int c, int pull, long pins) {
        return fall.runFrom(piece, law(), bit(c), pins, pull);
    }

    private int dropBoth(int a, int b, int pull) {
        // LOOPS go through their own PLACE and their neighbour's alone, so two others never meet.
        if (a % PLACES / 2 != b % PLACES / 2) {
            return Long.bitCount(goneAlone[a] | goneAlone[b]);
        }
        return fall.runFrom(piece, law(), bit(a) | bit(b), 0, pull);
    }

    private int lowestRow() {
        return fall.gone == 0 ? NONE : Long.numberOfTrailingZeros(fall.gone) / PLACES;
    }

    private int together(int part) {
        int sum = 0;
        for (int c = 0; c < LOOPS; c++) {
            if (hasBit(fall.gone, c)) {
                sum += law().says(part, piece, c, fall.rests[c]);
            }
        }
        return sum;
    }

    private long hangingOn(int c) {
        long bits = 0;
        for (int x = c + 1; x < LOOPS; x++) {
            if ((piece.under(x) & (bits | bit(c))) != 0) {
                bits |= bit(x);
            }
        }
        return bits;
    }

    private long bearing(int c) {
        long bits = 0;
        for (int x = c - 1; x >= 0; x--) {
            if ((piece.over(x) & (bits | bit(c))) != 0) {
                bits |= bit(x);
            }
        }
        return bits;
    }

    private int borneOf(int r) {
        int n = 0;
        for (int p = 0; p < PLACES; p++) {
            if (piece.over(r * PLACES + p) != 0) {
                n++;
            }
        }
        return n;
    }

    private int placesUnder(int r) {
        if (r == 0) {
            return 0;
        }
        int places = 0;
        for (int p = 0; p < PLACES; p++) {
            places |= piece.placesBelow(r * PLACES + p);
        }
        return Integer.bitCount(places);
    }

    private int unevenOf(int r) {
        int n = 0;
        for (int p = 0; p < PLACES; p++) {
            if (Integer.bitCount(piece.placesBelow(r * PLACES + p)) != 1) {
                n++;
            }
        }
        return n;
    }

    private int pinnedPlaces(int r) {
        int places = 0;
        for (int p = 0; p < PLACES; p++) {
            if (hasBit(piece.pins, r * PLACES + p)) {
                places |= 1 << p;
            }
        }
        return places;
    }

    private boolean isUnlikeThoseBeside(int c) {
        int face = faceOf(piece.kinds[c]);
        int place = c % PLACES;
        if (place > 0 && faceOf(piece.kinds[c - 1]) == face) {
            return false;
        }
        return place == PLACES - 1 || faceOf(piece.kinds[c + 1]) != face;
    }

    private int missed(int seed, int hundredth) {
        long lot = (seed + 1) * LOT_TIMES % LOT_MODULO;
        int n = 0;
        for (int c = 0; c < LOOPS; c++) {
            if (hasBit(fall.gone, c)) {
                if (lot % HUNDRED < hundredth) {
                    n++;
                }
                lot = lot * LOT_TIMES % LOT_MODULO;
            }
        }
        return n;
    }

    private int sheetRefusal(int s, int size) {
        if (!isSheet(s)) {
            return BAD;
        }
        if (sheets[s].isMissing()) {
            return NOTHING_THERE;
        }
        return sheets[s].size == size ? 0 : BAD;
    }

    private int ragRefusal(int s, int c) {
        int refusal = sheetRefusal(s, LOOPS);
        if (refusal != 0) {
            return refusal;
        }
        return isLoop(c) ? 0 : NO_LOOP;
    }

    /** The LOOPS, and THE LAW they are under: just what AN IMAGE keeps. */
    private static final class Piece {
        private final int[] kinds = new int[LOOPS];
        private final int[] mores = new int[LOOPS];
        private long pins;
        private long mends;
        private int law;

        private void become(int c, int kind, int more) {
            kinds[c] = kind;
            mores[c] = more;
        }

        private void takeFrom(Piece other) {
            System.arraycopy(other.kinds, 0, kinds, 0, LOOPS);
            System.arraycopy(other.mores, 0, mores, 0, LOOPS);
            pins = other.pins;
            mends = other.mends;
            law = other.law;
        }

        private boolean keeps(int c) {
            return kinds[c] == BOUND || hasBit(pins, c);
        }

        /** The PLACES (bits) that a LOOP goes THROUGH, in ROW 0, too. */
        private int placesBelow(int c) {
            int place = c % PLACES;
            int places = goesThroughOwn(kinds[c]) ? 1 << place : 0;
            return goesThroughNext(kinds[c]) ? places | 1 << (place ^ 1) : places;
        }

        /** The LOOPS (bits) that a LOOP goes THROUGH: none in ROW 0. */
        private long under(int c) {
            long places = placesBelow(c);
            return c < PLACES ? 0 : places << (c / PLACES - 1) * PLACES;
        }

        /** The LOOPS (bits) that go THROUGH a LOOP. */
        private long over(int c) {
            int own = c + PLACES;
            if (own >= LOOPS) {
                return 0;
            }
            int next = own ^ 1;
            long bits = goesThroughOwn(kinds[own]) ? bit(own) : 0;
            return goesThroughNext(kinds[next]) ? bits | bit(next) : bits;
        }
    }

    /** A RUN: which went, at which it stopped, and what was left of each (-1: it stays). */
    private static final class Fall {
        private final int[] rests = new int[LOOPS];
        private long gone;
        private long stops;

        /** Lets the dropped ones go, those held being PINNED for this once: how many go. */
        private int runFrom(Piece piece, Text law, long dropped, long held, int pull) {
            gone = 0;
            stops = 0;
            for (int c = LOOPS - 1; c >= 0; c--) {
                long over = gone == 0 ? 0 : piece.over(c);
                boolean isFree = over != 0 && (over & gone) == over;
                int rest = NONE;
                if (!hasBit(held, c) && !piece.keeps(c)) {
                    if (hasBit(dropped, c)) {
                        rest = pull;
                    } else if (isFree) {
                        rest = restOf(piece, law, c, over);
                    }
                }
                rests[c] = rest;
                if (rest >= 0) {
                    gone |= bit(c);
                } else if (isFree) {
                    stops |= bit(c);
                }
            }
            return Long.bitCount(gone);
        }

        private int restOf(Piece piece, Text law, int c, long over) {
            int comes = 0;
            for (int x = c + PLACES - 1; x < LOOPS && x <= c + PLACES + 1; x++) {
                if (hasBit(over, x)) {
                    comes = Math.max(comes, rests[x]);
                }
            }
            int said = law.says(RUB, piece, c, comes);
            int rub = bounded(rubOf(piece.kinds[c], said, piece.mores[c]), MOST_RUB);
            return comes > rub ? comes - rub : NONE;
        }
    }

    /** A TEXT in steps for a stack: a NUMBER is its own step, all others are below 0. */
    private static final class Text {
        private static final int DEEPEST = 40;

        private final int[] steps = new int[MOST_TAPE];
        private int size;
        private final int[] ends = new int[PARTS];
        private final int[] stack = new int[DEEPEST];
        private int top;

        private void clear() {
            size = 0;
        }

        private void add(int step) {
            if (size < MOST_TAPE) {
                steps[size++] = step;
            }
        }

        private void endPart(int part) {
            ends[part] = size;
        }

        private int says(int part, Piece piece, int c, int pull) {
            top = 0;
            int from = part > RUB ? ends[part - 1] : 0;
            int to = Math.min(ends[part], MOST_TAPE);
            for (int i = from; i < to; i++) {
                take(steps[i], piece, c, pull);
            }
            return bounded(pop(), MOST_SAID);
        }

        private void take(int step, Piece piece, int c, int pull) {
            switch (-step) {
                case Tape.ROW: push(c / PLACES); break;
                case Tape.PLACE: push(c % PLACES); break;
                case Tape.MORE: push(piece.mores[c]); break;
                case Tape.PULL: push(pull); break;
                case Tape.FACE: push(faceOf(piece.kinds[c])); break;
                case Tape.MENDED: push(hasBit(piece.mends, c) ? 1 : 0); break;
                case Tape.NOT: push(pop() == 0 ? 1 : 0); break;
                case Tape.NEGATE: push(-pop()); break;
                default:
                    if (step >= 0) {
                        push(step);
                    } else {
                        int right = pop();
                        push(joined(-step, pop(), right));
                    }
            }
        }

        private static int joined(int sign, int a, int b) {
            switch (sign) {
                case '+': return a + b;
                case '-': return a - b;
                case '*': return a * b;
                case '<': return a < b ? 1 : 0;
                case '=': return a == b ? 1 : 0;
                case Tape.AND: return a != 0 && b != 0 ? 1 : 0;
                default: return a != 0 || b != 0 ? 1 : 0;
            }
        }

        // What the grammar lets stand open never fills the stack; the tests here keep it so in any case.
        private void push(int v) {
            if (top < DEEPEST) {
                stack[top++] = v;
            }
        }

        private int pop() {
            return top > 0 ? stack[--top] : 0;
        }
    }

    /** THE TAPE, and the reading of it, a TOKEN at a time. */
    private static final class Tape {
        // A SIGN is its own TOKEN, a WORD is FIRST_WORD and its place in WORDS.
        private static final int END = 0, MISFIT = 1, NUMBER = 2, NEGATE = 3, FIRST_WORD = 300;
        private static final int OR = 303, AND = 304, NOT = 305;
        private static final int ROW = 306, PLACE = 307, MORE = 308, PULL = 309, FACE = 310, MENDED = 311;
        private static final String WORDS = " rub minutes seen or and not row place more pull face mended ";

        private static final int BY_OR = 0, BY_AND = 1, BY_COMPARE = 2, BY_SUM = 3, BY_PRODUCT = 4, BY_NONE = 5;
        private static final int MOST_OPEN = 5, MOST_DIGITS = 4;

        private final int[] bytes = new int[MOST_TAPE];
        private int size;
        private int behind;
        private int start;
        private int token;
        private int value;
        private Text into;

        private void add(int b) {
            if (size < MOST_TAPE) {
                bytes[size++] = b;
            }
        }

        /** The place of the FAULT, or -1. */
        private int readInto(Text text) {
            into = text;
            into.clear();
            behind = 0;
            advance();
            for (int part = 0; part < PARTS; part++) {
                if (token != FIRST_WORD + part) {
                    return start;
                }
                advance();
                if (!chain(BY_OR, 0) || token != ';') {
                    return start;
                }
                into.endPart(part);
                advance();
            }
            return token == END ? NONE : start;
        }

        /** Reads what is joined by the signs of a level, of parts of the next; open is how many are open. */
        private boolean chain(int level, int open) {
            if (level >= BY_NONE) {
                return one(open);
            }
            if (level == BY_COMPARE && token == NOT) {
                return negation(open);
            }
            if (!chain(level + 1, open)) {
                return false;
            }
            int most = level == BY_COMPARE ? 1 : MOST_TAPE;
            for (int i = 0; i < most && joins(level, token); i++) {
                int sign = token;
                advance();
                if (!chain(level + 1, open)) {
                    return false;
                }
                into.add(-sign);
            }
            return true;
        }

        private static boolean joins(int level, int token) {
            switch (level) {
                case BY_OR: return token == OR;
                case BY_AND: return token == AND;
                case BY_COMPARE: return token == '<' || token == '=';
                case BY_SUM: return token == '+' || token == '-';
                default: return token == '*';
            }
        }

        private boolean negation(int open) {
            if (open >= MOST_OPEN) {
                return false;
            }
            advance();
            if (!chain(BY_COMPARE, open + 1)) {
                return false;
            }
            into.add(-NOT);
            return true;
        }

        private boolean one(int open) {
            if (token == NUMBER) {
                into.add(value);
            } else if (within(token, ROW, MENDED)) {
                into.add(-token);
            } else {
                return (token == '-' || token == '(') && open < MOST_OPEN && opened(open + 1);
            }
            advance();
            return true;
        }

        private boolean opened(int open) {
            boolean isMinus = token == '-';
            advance();
            if (isMinus) {
                if (!one(open)) {
                    return false;
                }
                into.add(-NEGATE);
                return true;
            }
            if (!chain(BY_OR, open) || token != ')') {
                return false;
            }
            advance();
            return true;
        }

        private void advance() {
            int at = behind;
            for (; at < size && (bytes[at] == ' ' || bytes[at] == '\n'); at++) {
                continue;
            }
            start = at;
            if (at >= size) {
                token = END;
            } else if (isLetter(bytes[at])) {
                for (; at < size && isLetter(bytes[at]); at++) {
                    continue;
                }
                token = wordToken(at);
            } else if (isDigit(bytes[at])) {
                value = 0;
                for (; at < size && isDigit(bytes[at]); at++) {
                    value = value * 10 + bytes[at] - '0';
                }
                token = at - start > MOST_DIGITS ? MISFIT : NUMBER;
            } else {
                token = isSign(bytes[at]) ? bytes[at] : MISFIT;
                at++;
            }
            behind = at;
        }

        private static boolean isLetter(int b) {
            return within(b, 'a', 'z');
        }

        private static boolean isDigit(int b) {
            return within(b, '0', '9');
        }

        private static boolean isSign(int b) {
            return within(b, '(', '+') || within(b, ';', '=') || b == '-';
        }

        /** The TOKEN of the letters from start up to an end. */
        private int wordToken(int end) {
            int word = FIRST_WORD;
            for (int i = 0; i < WORDS.length(); i++) {
                if (WORDS.charAt(i) == ' ') {
                    if (standsAt(i + 1, end)) {
                        return word;
                    }
                    word++;
                }
            }
            return MISFIT;
        }

        private boolean standsAt(int i, int end) {
            int length = end - start;
            if (i + length >= WORDS.length() || WORDS.charAt(i + length) != ' ') {
                return false;
            }
            for (int k = 0; k < length; k++) {
                if (WORDS.charAt(i + k) != bytes[start + k]) {
                    return false;
                }
            }
            return true;
        }
    }

    /** A row of numbers of a sort, or missing. */
    private static final class Sheet {
        private final int[] numbers = new int[MOST_SIZE];
        private int sort = MISSING;
        private int size;

        private boolean isMissing() {
            return sort == MISSING;
        }

        private void become(int newSort, int n) {
            sort = newSort;
            size = n;
            for (int i = 0; i < MOST_SIZE; i++) {
                numbers[i] = 0;
            }
        }

        private void put(int i, int v) {
            int shift = sort == BYTES ? 24 : sort == SHORTS ? 16 : 0;
            numbers[i] = v << shift >> shift;
        }

        /** Whether n numbers stand from place i on; n may be below 0, or the sum too large for an int. */
        private boolean hasRoom(int i, int n) {
            return i >= 0 && n >= 0 && i <= size && n <= size - i;
        }

        /** The first number that isn't 1 where a bit is, 0 where none is; -1: none. */
        private int firstUnlike(long bits) {
            for (int i = 0; i < size && i < MOST_SIZE; i++) {
                if (numbers[i] != (hasBit(bits, i) ? 1 : 0)) {
                    return i;
                }
            }
            return NONE;
        }
    }
}
