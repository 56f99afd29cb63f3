/**
 * A fiddle that buzzes: its pieces, its loose things, what was bowed and heard, and what follows of it.
 * The words in capitals are those of the document (../shared/DOC.md).
 */
public final class FiddleBuzz {
    private static final int NOT_AS_TOLD = -1;
    private static final int NO_ROOM = -2;
    private static final int NOT_AS_IT_STANDS = -3;
    private static final int NONE = -4;
    private static final int NOTHING_HELD = -11;
    private static final int ANOTHER_KIND = -12;
    private static final int NO_SUCH_PLACE = -13;
    private static final int SIZE_BELOW_0 = -14;
    private static final int NO_FAILURE = -15;
    /** Added to a refusal where an answer may be below 0 itself. */
    private static final int FARTHER = -1000000000;

    private static final int MOST_PIECES = 10;
    private static final int MOST_THINGS = 7;
    private static final int MOST_ASKS = 24;
    private static final int MOST_WAX = 20;
    private static final int MOST_DRY = 20;
    private static final int MOST_POST = 9;
    private static final int MOST_STRONG = 99;
    private static final int MOST_PASS = 99;
    private static final int MOST_GAP = 999;
    private static final int MOST_CHANCE = 99;
    /** The highest tone of a PIECE, and of the tones that are looked through. */
    private static final int TOP_TONE = 600;
    /** The highest tone that can be bowed. */
    private static final int TOP_BOWED = 1200;
    private static final int SHELVES = 8;
    private static final int MOST_ELEMENTS = 100;
    private static final int MOST_FEWEST_TONES = 6;
    private static final int MOST_RATTLE_TONES = 10;
    private static final int WOLF_WIDTH = 6;
    private static final int NOBODY = -1;

    /** Of DRY, PLAYER, ROOM, POST. */
    private static final int[] LEAST_SET = {0, 0, 0, -9};
    private static final int[] MOST_SET = {20, 1, 3, 9};

    private final Fiddle fiddle = new Fiddle();
    private final Fiddle picture = new Fiddle();
    private boolean pictured;
    /** Here an INSTRUMENT that is read is tried, so that one with a FAULT leaves nothing behind. */
    private final Fiddle trial = new Fiddle();
    private final Reader reader = new Reader();
    private final Setting supposed = new Setting();
    private final Thing[] shelvedThings = new Thing[SHELVES];
    private final Row[] shelvedRows = new Row[SHELVES];
    private final int[] toneBuzzes = new int[MOST_RATTLE_TONES];
    private final int[] worstOf = new int[1 << MOST_THINGS];
    private final int[] askSwings = new int[MOST_ASKS];

    public FiddleBuzz() {
    }

    // ---- instruments

    public int instrument(int d) {
        int refusal = rowRefusal(d);
        if (refusal != 0) {
            return refusal;
        }
        Row text = shelvedRows[d];
        if (text.sort != Row.BYTES) {
            return ANOTHER_KIND;
        }
        reader.start(text);
        int statements = reader.countStatements();
        if (statements < 0) {
            return fault(1, reader.at);
        }
        reader.start(text);
        trial.become(fiddle);
        for (int i = 0; i < statements; i++) {
            if (!reader.readStatement() || !trial.follow(reader)) {
                return fault(2, reader.place);
            }
        }
        fiddle.become(trial);
        return statements;
    }

    private static int fault(int kind, int place) {
        return -1000 * kind - place;
    }

    public int piece(int piece, int what) {
        Piece p = fiddle.pieceAt(piece);
        if (p == null) {
            return NOT_AS_TOLD;
        }
        switch (what) {
            case 0: return p.tone;
            case 1: return p.loss;
            case 2: return p.weight;
            case 3: return p.joined < 0 ? NONE : p.joined;
            case 4: return p.pass;
            case 5: return fiddle.now.waxOn(piece);
            case 6: return p.toneWith(fiddle.now.waxOn(piece));
            case 7: return p.lossHeld(fiddle.now.hand == piece);
            default: return NOT_AS_TOLD;
        }
    }

    public int thing(int thing, int what) {
        Thing t = fiddle.thingAt(thing);
        if (t == null) {
            return NOT_AS_TOLD;
        }
        switch (what) {
            case 0: return t.kind;
            case 1: return t.piece;
            case 2: return t.gap;
            case 3: return t.figure;
            case 4: return t.chance;
            case 5: return t.cost();
            default: return NOT_AS_TOLD;
        }
    }

    public int wax(int piece, int n) {
        if (!fiddle.isPiece(piece) || !isWithin(n, 0, MOST_WAX)) {
            return NOT_AS_TOLD;
        }
        int was = fiddle.now.waxOn(piece);
        fiddle.now.layWax(piece, n);
        return was;
    }

    public int hand(int piece) {
        if (piece != NOBODY && !fiddle.isPiece(piece)) {
            return FARTHER + NOT_AS_TOLD;
        }
        int held = fiddle.now.hand;
        fiddle.now.hand = piece;
        return held == NOBODY ? NONE : held;
    }

    public int set(int what, int n) {
        int was = fiddle.now.told(what);
        return fiddle.now.tell(what, n) ? was : FARTHER + NOT_AS_TOLD;
    }

    // ---- swings

    public int swing(int piece, int f, int strong) {
        if (!fiddle.isPiece(piece) || !isBowed(f, strong)) {
            return NOT_AS_TOLD;
        }
        return fiddle.swingOf(piece, fiddle.now, f, strong);
    }

    public int buzzes(int thing, int f, int strong, int what) {
        Thing t = fiddle.thingAt(thing);
        if (t == null || !isBowed(f, strong)) {
            return NOT_AS_TOLD;
        }
        switch (what) {
            case 0: return fiddle.swingsOf(t, fiddle.now, f, strong);
            case 1: return fiddle.strikesOf(t, t.gap, fiddle.now);
            case 2: return fiddle.isBuzzing(t, fiddle.now, f, strong) ? 1 : 0;
            default: return NOT_AS_TOLD;
        }
    }

    public int heard(int f, int strong) {
        if (!isBowed(f, strong)) {
            return NOT_AS_TOLD;
        }
        return fiddle.buzzingAt(f, strong);
    }

    public int bands(int thing, int strong, int i, int what) {
        Thing t = fiddle.thingAt(thing);
        if (t == null || !isStrong(strong) || i < -1 || !isWithin(what, 0, 1)) {
            return NOT_AS_TOLD;
        }
        int ended = 0;
        int first = 0;
        for (int f = 1; f <= TOP_TONE + 1; f++) {
            boolean buzzing = f <= TOP_TONE && fiddle.isBuzzing(t, fiddle.now, f, strong);
            if (buzzing && first == 0) {
                first = f;
            }
            if (!buzzing && first > 0) {
                if (ended == i) {
                    return what == 0 ? first : f - 1;
                }
                ended++;
                first = 0;
            }
        }
        return i == -1 ? ended : NONE;
    }

    public int loudest(int piece, int strong) {
        if (!fiddle.isPiece(piece) || !isStrong(strong)) {
            return NOT_AS_TOLD;
        }
        int best = 0;
        int greatest = -1;
        for (int f = 1; f <= TOP_TONE; f++) {
            int swing = fiddle.swingOf(piece, fiddle.now, f, strong);
            if (swing > greatest) {
                greatest = swing;
                best = f;
            }
        }
        return best;
    }

    public int softest(int thing, int f) {
        Thing t = fiddle.thingAt(thing);
        if (t == null || !isTone(f)) {
            return NOT_AS_TOLD;
        }
        for (int strong = 1; strong <= MOST_STRONG; strong++) {
            if (fiddle.isBuzzing(t, fiddle.now, f, strong)) {
                return strong;
            }
        }
        return NONE;
    }

    // ---- asks

    public int ask(int f, int strong, boolean heard) {
        if (!isBowed(f, strong)) {
            return NOT_AS_TOLD;
        }
        if (fiddle.askCount >= MOST_ASKS) {
            return NO_ROOM;
        }
        if (fiddle.thingCount == 0) {
            return NOT_AS_IT_STANDS;
        }
        return fiddle.keepAsk(f, strong, heard);
    }

    public int forget() {
        int were = fiddle.askCount;
        fiddle.askCount = 0;
        return were;
    }

    public int fits() {
        return fiddle.thingCount == 0 ? NOT_AS_IT_STANDS : fiddle.fitting();
    }

    public int both(int a, int b) {
        if (!fiddle.isThing(a) || !fiddle.isThing(b) || a == b) {
            return NOT_AS_TOLD;
        }
        return fiddle.isFit(1 << a | 1 << b) ? 1 : 0;
    }

    public int odds(int thing, boolean two, int part) {
        if (!fiddle.isThing(thing) || !isWithin(part, 0, 1)) {
            return NOT_AS_TOLD;
        }
        int all = (1 << MOST_THINGS) - 1;
        int below = two ? pairChances(all) : fiddle.chancesOf(fiddle.fitting());
        int above = two ? pairChances(1 << thing) : fiddle.chancesOf(fiddle.fitting() & 1 << thing);
        if (below <= 0) {
            return NONE;
        }
        int common = commonDivisor(above, below);
        if (common <= 0) {
            return NONE;
        }
        return (part == 0 ? above : below) / common;
    }

    /** The CHANCES of pairs that FIT, of which at least one THING is told (bits). */
    private int pairChances(int told) {
        int sum = 0;
        for (int a = 0; a < fiddle.thingCount; a++) {
            for (int b = a + 1; b < fiddle.thingCount; b++) {
                int pair = 1 << a | 1 << b;
                if ((pair & told) != 0 && fiddle.isFit(pair)) {
                    sum += fiddle.chancesOf(1 << a) * fiddle.chancesOf(1 << b);
                }
            }
        }
        return sum;
    }

    private static int commonDivisor(int a, int b) {
        int greater = a;
        int less = b;
        // Every second step halves what is left, so 64 steps are enough for any int.
        for (int i = 0; i < 64 && less != 0; i++) {
            int rest = greater % less;
            greater = less;
            less = rest;
        }
        return greater;
    }

    public int which() {
        int fitting = fiddle.fitting();
        int best = NONE;
        int greatest = 0;
        for (int i = 0; i < fiddle.thingCount; i++) {
            int chance = fiddle.chancesOf(fitting & 1 << i);
            if (chance > greatest) {
                greatest = chance;
                best = i;
            }
        }
        return best;
    }

    public int next(int strong) {
        if (!isStrong(strong)) {
            return NOT_AS_TOLD;
        }
        int fitting = fiddle.fitting();
        int all = fiddle.chancesOf(fitting);
        int best = NONE;
        int least = 0;
        for (int f = 10; f <= TOP_TONE && fitting != 0; f += 10) {
            // Doubled, so that half of an odd sum needs no cut.
            int off = Math.abs(2 * fiddle.chancesOf(fitting & fiddle.buzzingAt(f, strong)) - all);
            if (best == NONE || off < least) {
                least = off;
                best = f;
            }
        }
        return best;
    }

    public int fewest(int d, int strong) {
        int refusal = tonesRefusal(d, isStrong(strong), MOST_FEWEST_TONES);
        if (refusal != 0) {
            return refusal;
        }
        int fitting = fiddle.fitting();
        if (!isWithin(fitting, 1, worstOf.length - 1)) {
            return NONE;
        }
        int tones = listen(shelvedRows[d], strong);
        for (int left = 0; left <= fitting; left++) {
            worstOf[left] = (left & ~fitting) == 0 ? worstCase(left, tones) : 0;
        }
        return worstOf[fitting];
    }

    /** How many tones tell the THINGS that are left, once all smaller sets in worstOf are done. */
    private int worstCase(int left, int tones) {
        int best = 0;
        for (int i = 0; i < tones; i++) {
            int buzzing = left & toneBuzzes[i];
            int silent = left & ~toneBuzzes[i];
            if (buzzing != 0 && silent != 0) {
                int bowed = 1 + Math.max(worstOf[buzzing], worstOf[silent]);
                best = best == 0 ? bowed : Math.min(best, bowed);
            }
        }
        return best;
    }

    /** Fills toneBuzzes with the THINGS that BUZZ at each tone of a ROW: how many tones. */
    private int listen(Row tones, int strong) {
        int size = Math.min(tones.size(), toneBuzzes.length);
        for (int i = 0; i < size; i++) {
            toneBuzzes[i] = fiddle.buzzingAt(tones.valueAt(i), strong);
        }
        return size;
    }

    // ---- lumps, seams, lengths

    public int shift(int piece, int n) {
        if (!fiddle.isPiece(piece) || !isWithin(n, 0, MOST_WAX)) {
            return NOT_AS_TOLD;
        }
        if (fiddle.now.waxOn(piece) + n > MOST_WAX) {
            return NOT_AS_IT_STANDS;
        }
        return fiddle.shiftBy(piece, n);
    }

    public int lives(int n, int shift, int m) {
        if (!isWithin(n, 0, MOST_WAX) || !isWithin(m, 0, 99)) {
            return NOT_AS_TOLD;
        }
        int bits = 0;
        for (int i = 0; i < fiddle.pieceCount; i++) {
            long off = Math.abs((long) fiddle.shiftBy(i, n) - shift);
            if (fiddle.now.waxOn(i) + n <= MOST_WAX && off <= m) {
                bits |= 1 << i;
            }
        }
        return bits;
    }

    public int seamOrCrack(int a, int b, int f) {
        Thing first = fiddle.thingAt(a);
        Thing second = fiddle.thingAt(b);
        if (first == null || second == null || a == b || first.piece != second.piece || !isTone(f)) {
            return NOT_AS_TOLD;
        }
        for (int strong = 1; strong <= MOST_STRONG; strong++) {
            boolean one = fiddle.isBuzzing(first, fiddle.now, f, strong);
            boolean other = fiddle.isBuzzing(second, fiddle.now, f, strong);
            if (one != other) {
                return strong;
            }
        }
        return NONE;
    }

    public int length(int thing, int what) {
        Thing t = fiddle.thingAt(thing);
        if (t == null || !isWithin(what, 0, 1)) {
            return NOT_AS_TOLD;
        }
        swingsAtAsks(t);
        int step = what == 0 ? 1 : -1;
        int gap = what == 0 ? 1 : MOST_GAP;
        for (int i = 0; i < MOST_GAP; i++) {
            if (isGapFit(t, gap)) {
                return gap;
            }
            gap += step;
        }
        return NONE;
    }

    private void swingsAtAsks(Thing t) {
        for (int i = 0; i < fiddle.askCount; i++) {
            Ask ask = fiddle.askAt(i);
            if (ask != null) {
                askSwings[i] = fiddle.swingsOf(t, ask.setting, ask.f, ask.strong);
            }
        }
    }

    /** Whether a THING would have BUZZED at each ASK just as heard, what it SWINGS there being in askSwings. */
    private boolean isGapFit(Thing t, int gap) {
        for (int i = 0; i < fiddle.askCount; i++) {
            Ask ask = fiddle.askAt(i);
            if (ask != null && askSwings[i] > fiddle.strikesOf(t, gap, ask.setting) != ask.heard) {
                return false;
            }
        }
        return true;
    }

    // ---- works, wolves, rattles

    public int friday(int d, int strong, int what) {
        int refusal = tonesRefusal(d, isStrong(strong) && isWithin(what, 0, 1), MOST_ELEMENTS);
        if (refusal != 0) {
            return refusal;
        }
        Row tones = shelvedRows[d];
        // No PRICE is below 0, so nothing is cheaper, nor less as bits, than just those that BUZZ.
        int mended = 0;
        for (int i = 0; i < tones.size(); i++) {
            mended |= fiddle.buzzingAt(tones.valueAt(i), strong);
        }
        return what == 0 ? fiddle.costsOf(mended) : mended;
    }

    public int wolf(int i) {
        if (i < -1) {
            return NOT_AS_TOLD;
        }
        return i == -1 ? fiddle.wolves(fiddle.now) : fiddle.wolfAt(i, fiddle.now);
    }

    public int beats(int i) {
        if (i < 0) {
            return NOT_AS_TOLD;
        }
        int pair = fiddle.wolfAt(i, fiddle.now);
        if (pair < 0) {
            return NONE;
        }
        int apart = fiddle.apart(pair / 10, pair % 10, fiddle.now);
        return apart <= 0 ? 600 : 600 / apart;
    }

    public int ends(int what) {
        if (!isWithin(what, 0, 1)) {
            return NOT_AS_TOLD;
        }
        if (fiddle.pieceCount == 0) {
            return NOT_AS_IT_STANDS;
        }
        for (int n = 0; n <= MOST_WAX; n++) {
            for (int i = 0; i < fiddle.pieceCount; i++) {
                supposed.become(fiddle.now);
                supposed.layWax(i, n);
                if (fiddle.wolves(supposed) == 0) {
                    return what == 0 ? n : i;
                }
            }
        }
        return NONE;
    }

    public int rattles(int d, int strong, int what) {
        int refusal = tonesRefusal(d, isStrong(strong) && isWithin(what, 0, 1), MOST_RATTLE_TONES);
        if (refusal != 0) {
            return refusal;
        }
        int tones = listen(shelvedRows[d], strong);
        int all = (1 << tones) - 1;
        int wanted = buzzingAtSome(all);
        int best = all;
        for (int bits = all - 1; bits >= 0; bits--) {
            if (Integer.bitCount(bits) <= Integer.bitCount(best) && buzzingAtSome(bits) == wanted) {
                best = bits;
            }
        }
        return what == 0 ? Integer.bitCount(best) : best;
    }

    /** The THINGS in toneBuzzes that BUZZ at some of these tones (bits). */
    private int buzzingAtSome(int tones) {
        int things = 0;
        for (int i = 0; i < toneBuzzes.length; i++) {
            if ((tones >> i & 1) != 0) {
                things |= toneBuzzes[i];
            }
        }
        return things;
    }

    public int harm(int n) {
        if (!isWithin(n, 0, 20)) {
            return NOT_AS_TOLD;
        }
        supposed.become(fiddle.now);
        supposed.dry = Math.min(MOST_DRY, fiddle.now.dry + n);
        return fiddle.seamStrikes(fiddle.now) - fiddle.seamStrikes(supposed);
    }

    public int hair(int piece, int f, int strong, int n) {
        if (!fiddle.isPiece(piece) || !isBowed(f, strong) || !isWithin(n, -2 * MOST_POST, 2 * MOST_POST)) {
            return FARTHER + NOT_AS_TOLD;
        }
        int post = fiddle.now.post + n;
        if (!isWithin(post, -MOST_POST, MOST_POST)) {
            return FARTHER + NOT_AS_IT_STANDS;
        }
        supposed.become(fiddle.now);
        supposed.post = post;
        return fiddle.swingOf(piece, supposed, f, strong) - fiddle.swingOf(piece, fiddle.now, f, strong);
    }

    public int judge(int piece, int strong, int d) {
        if (!fiddle.isPiece(piece) || !isStrong(strong)) {
            return NOT_AS_TOLD;
        }
        int refusal = rowRefusal(d);
        if (refusal != 0) {
            return refusal;
        }
        Row told = shelvedRows[d];
        for (int i = 0; i < told.size(); i++) {
            int value = told.valueAt(i);
            if (value != told.leastNumber() && value != fiddle.swingOf(piece, fiddle.now, 10 * i + 10, strong)) {
                return i;
            }
        }
        return NONE;
    }

    // ---- the image, what is told

    public int image() {
        picture.become(fiddle);
        pictured = true;
        return fiddle.askCount;
    }

    public int restore() {
        if (!pictured) {
            return NOT_AS_IT_STANDS;
        }
        fiddle.become(picture);
        return fiddle.askCount;
    }

    public int count(int what) {
        switch (what) {
            case 0: return fiddle.pieceCount;
            case 1: return fiddle.thingCount;
            case 2: return fiddle.askCount;
            case 3: return fiddle.allWax();
            case 4: return fiddle.asksHeard();
            case 5: return fiddle.chancesOf((1 << MOST_THINGS) - 1);
            default: return NOT_AS_TOLD;
        }
    }

    // ---- shelves

    public int keep(int d, int what, int k) {
        boolean asTold = what == 0 || what == 1 && fiddle.isThing(k);
        if (!isShelf(d) || !asTold) {
            return NOT_AS_TOLD;
        }
        shelvedThings[d] = what == 0 ? null : fiddle.thingAt(k);
        shelvedRows[d] = null;
        return 0;
    }

    public int row(int d, int sort, int n) {
        if (!isShelf(d) || !isWithin(sort, Row.BYTES, Row.INTS) || n > MOST_ELEMENTS) {
            return NOT_AS_TOLD;
        }
        if (n < 0) {
            return SIZE_BELOW_0;
        }
        shelvedThings[d] = null;
        shelvedRows[d] = new Row(sort, n);
        return 0;
    }

    public int put(int d, int i, int v) {
        int refusal = rowRefusal(d);
        if (refusal != 0) {
            return refusal;
        }
        return shelvedRows[d].place(i, v) ? 0 : NO_SUCH_PLACE;
    }

    public long element(int d, int i) throws IllegalArgumentException, IllegalStateException {
        if (!isShelf(d)) {
            throw new IllegalArgumentException("no such SHELF");
        }
        if (rowRefusal(d) != 0) {
            throw new IllegalStateException("no ROW");
        }
        if (!shelvedRows[d].isPlace(i)) {
            throw new IllegalStateException("no such place");
        }
        return shelvedRows[d].valueAt(i);
    }

    public int copy(int d, int i, int e, int j, int n) {
        int refusal = pairRefusal(d, e);
        if (refusal != 0) {
            return refusal;
        }
        return shelvedRows[d].copyTo(shelvedRows[e], i, j, n) ? n : NO_SUCH_PLACE;
    }

    public int price(int d) {
        int refusal = thingRefusal(d);
        return refusal != 0 ? refusal : shelvedThings[d].cost();
    }

    public int toss(int d) {
        int refusal = thingRefusal(d);
        if (refusal != 0) {
            return refusal;
        }
        Thing t = shelvedThings[d];
        try {
            t.fail();
        } catch (UnsupportedOperationException roomed) {
            return 200 + t.cost();
        } catch (IllegalArgumentException cracked) {
            return 100 + t.number;
        } catch (IllegalStateException other) {
            return t.number;
        }
        return NO_FAILURE;
    }

    // ---- what calls have in common

    private static boolean isWithin(int n, int least, int most) {
        return n >= least && n <= most;
    }

    private static boolean isTone(int f) {
        return isWithin(f, 1, TOP_BOWED);
    }

    private static boolean isStrong(int strong) {
        return isWithin(strong, 1, MOST_STRONG);
    }

    private static boolean isBowed(int f, int strong) {
        return isTone(f) && isStrong(strong);
    }

    private static boolean isShelf(int d) {
        return isWithin(d, 0, SHELVES - 1);
    }

    /** Why there is no ROW in SHELF d; 0: there is one. */
    private int rowRefusal(int d) {
        if (!isShelf(d)) {
            return NOT_AS_TOLD;
        }
        if (shelvedRows[d] != null) {
            return 0;
        }
        return shelvedThings[d] == null ? NOTHING_HELD : ANOTHER_KIND;
    }

    /** Why there is no THING on SHELF d; 0: there is one. */
    private int thingRefusal(int d) {
        if (!isShelf(d)) {
            return NOT_AS_TOLD;
        }
        if (shelvedThings[d] != null) {
            return 0;
        }
        return shelvedRows[d] == null ? NOTHING_HELD : ANOTHER_KIND;
    }

    /** Why there are no ROWS of one SORT in SHELVES d and e; 0: there are. */
    private int pairRefusal(int d, int e) {
        int first = rowRefusal(d);
        int second = rowRefusal(e);
        if (first == NOT_AS_TOLD || second == NOT_AS_TOLD) {
            return NOT_AS_TOLD;
        }
        if (first == NOTHING_HELD || second == NOTHING_HELD) {
            return NOTHING_HELD;
        }
        if (first != 0 || second != 0) {
            return ANOTHER_KIND;
        }
        return shelvedRows[d].sort == shelvedRows[e].sort ? 0 : ANOTHER_KIND;
    }

    /** Why the ROW in SHELF d can't be bowed, the other numbers of the call being as told or not; 0: it can. */
    private int tonesRefusal(int d, boolean othersAsTold, int most) {
        if (!othersAsTold) {
            return NOT_AS_TOLD;
        }
        int refusal = rowRefusal(d);
        if (refusal != 0) {
            return refusal;
        }
        Row tones = shelvedRows[d];
        if (tones.size() > most) {
            return NO_SUCH_PLACE;
        }
        for (int i = 0; i < tones.size(); i++) {
            if (!isTone(tones.valueAt(i))) {
                return NO_SUCH_PLACE;
            }
        }
        return 0;
    }

    /** A PIECE as it was read; nothing of it changes. */
    static final class Piece {
        final int tone;
        final int loss;
        final int weight;
        final int joined;
        final int pass;

        Piece(int tone, int loss, int weight, int joined, int pass) {
            this.tone = tone;
            this.loss = loss;
            this.weight = weight;
            this.joined = joined;
            this.pass = pass;
        }

        int toneWith(int wax) {
            int below = 2 * weight + wax;
            return below > 0 ? tone - tone * wax / below : tone;
        }

        int lossHeld(boolean held) {
            return held ? 2 * loss : loss;
        }

        /** The hundredths of the SWING of the PIECE to which it is joined that come over. */
        int passWith(int post) {
            return Math.max(0, Math.min(MOST_PASS, pass + post));
        }
    }

    /** A loose THING as it was read; nothing of it changes, so SHELVES may hold it beyond a RESTORE. */
    static final class Thing {
        static final int SEAMED = 1;
        static final int STRINGED = 2;
        static final int FITTED = 3;
        static final int CRACKED = 4;
        static final int WITHIN = 5;
        static final int WORN = 6;
        static final int ROOMED = 7;
        static final int KINDS = 8;
        private static final int BUZZ_COST = 5;

        final int number;
        final int kind;
        final int piece;
        final int gap;
        final int figure;
        final int chance;

        Thing(int number, int kind, int piece, int gap, int figure, int chance) {
            this.number = number;
            this.kind = kind;
            this.piece = piece;
            this.gap = gap;
            this.figure = figure;
            this.chance = chance;
        }

        int cost() {
            switch (kind) {
                case SEAMED: return BUZZ_COST + figure;
                case STRINGED: return 3 * BUZZ_COST;
                case FITTED: return BUZZ_COST - 3;
                case CRACKED: return BUZZ_COST + figure + 40;
                case WITHIN: return 2 * BUZZ_COST + figure;
                case WORN: return BUZZ_COST - 5;
                case ROOMED: return BUZZ_COST - 5 + 1;
                default: return BUZZ_COST;
            }
        }

        boolean isSeam() {
            return kind == SEAMED || kind == CRACKED;
        }

        /** Throws its FAILURE; comes back if it has none. */
        void fail() {
            if (kind == FITTED || figure == 0) {
                return;
            }
            if (kind == ROOMED) {
                throw new UnsupportedOperationException("the room's");
            }
            if (kind == CRACKED) {
                throw new IllegalArgumentException("a crack's");
            }
            throw new IllegalStateException("a loose thing's");
        }
    }

    /** All that is moved, held and set while the INSTRUMENT stays as it is. */
    static final class Setting {
        int hand = NOBODY;
        int dry;
        int player;
        int room;
        int post;
        private final int[] wax = new int[MOST_PIECES];

        void become(Setting other) {
            hand = other.hand;
            dry = other.dry;
            player = other.player;
            room = other.room;
            post = other.post;
            System.arraycopy(other.wax, 0, wax, 0, MOST_PIECES);
        }

        int waxOn(int piece) {
            return piece >= 0 && piece < MOST_PIECES ? wax[piece] : 0;
        }

        void layWax(int piece, int n) {
            if (piece >= 0 && piece < MOST_PIECES) {
                wax[piece] = n;
            }
        }

        int told(int what) {
            switch (what) {
                case 0: return dry;
                case 1: return player;
                case 2: return room;
                default: return post;
            }
        }

        /** Sets DRY (what 0), PLAYER (1), ROOM (2) or POST (3); false: that is none, or n is out of range. */
        boolean tell(int what, int n) {
            if (!isWithin(what, 0, 3) || !isWithin(n, LEAST_SET[what], MOST_SET[what])) {
                return false;
            }
            switch (what) {
                case 0: dry = n; break;
                case 1: player = n; break;
                case 2: room = n; break;
                default: post = n; break;
            }
            return true;
        }
    }

    /** What was bowed, whether a buzz was heard, and how things were; nothing of it changes. */
    static final class Ask {
        final int f;
        final int strong;
        final boolean heard;
        /** The THINGS that BUZZ so (bits): while an ASK is kept, none comes to them and none changes. */
        final int buzzing;
        final Setting setting;

        Ask(int f, int strong, boolean heard, int buzzing, Setting setting) {
            this.f = f;
            this.strong = strong;
            this.heard = heard;
            this.buzzing = buzzing;
            this.setting = setting;
        }

        boolean isFit(int things) {
            return (buzzing & things) != 0 == heard;
        }
    }

    /** A ROW of numbers of one SORT. */
    static final class Row {
        static final int BYTES = 0;
        static final int SHORTS = 1;
        static final int INTS = 2;

        final int sort;
        private final int[] values;

        Row(int sort, int size) {
            this.sort = sort;
            this.values = new int[size < 0 ? 0 : size];
        }

        int size() {
            return values.length;
        }

        boolean isPlace(int i) {
            return i >= 0 && i < values.length;
        }

        int valueAt(int i) {
            return i >= 0 && i < values.length ? values[i] : 0;
        }

        boolean place(int i, int v) {
            if (!isPlace(i)) {
                return false;
            }
            values[i] = lowestBits(v);
            return true;
        }

        private int lowestBits(int v) {
            switch (sort) {
                case BYTES: return (byte) v;
                case SHORTS: return (short) v;
                default: return v;
            }
        }

        int leastNumber() {
            switch (sort) {
                case BYTES: return -128;
                case SHORTS: return -32768;
                default: return -2147483648;
            }
        }

        private boolean hasFrom(int i, int n) {
            // Taken from the size, for i and n together may be beyond an int.
            return i >= 0 && n >= 0 && i <= values.length && n <= values.length - i;
        }

        boolean copyTo(Row other, int i, int j, int n) {
            if (!hasFrom(i, n) || !other.hasFrom(j, n)) {
                return false;
            }
            System.arraycopy(values, i, other.values, j, n);
            return true;
        }
    }

    /** Takes a text of bytes apart, STATEMENT by STATEMENT. */
    static final class Reader {
        /** No byte: the text has ended. */
        private static final int END = 1000;
        private static final int MOST_DIGITS = 3;

        /** The place of the byte that comes next; where a STATEMENT can't be read, that of the byte at fault. */
        int at;
        /** The place of the letter of the STATEMENT read last. */
        int place;
        int letter;
        /** Whether a p tells a PIECE to which it is joined. */
        boolean joined;
        private int found;
        private int size;
        private final int[] bytes = new int[MOST_ELEMENTS];
        private final int[] numbers = new int[5];

        void start(Row text) {
            size = Math.min(text.size(), MOST_ELEMENTS);
            for (int i = 0; i < size; i++) {
                bytes[i] = text.valueAt(i);
            }
            at = 0;
        }

        /** Reads all of the text: how many STATEMENTS; below 0: it is at fault at the byte that comes next. */
        int countStatements() {
            int statements = 0;
            // A STATEMENT takes a byte at least, so there are no more of them than bytes.
            for (int i = 0; i <= size && (at < size || statements == 0); i++) {
                if (!readStatement()) {
                    return -1;
                }
                statements++;
            }
            return statements;
        }

        boolean readStatement() {
            place = at;
            letter = byteHere();
            found = 0;
            joined = false;
            String form = formOf(letter);
            if (form.isEmpty()) {
                return false;
            }
            at++;
            if (!readForm(form)) {
                return false;
            }
            if (letter == 'p' && byteHere() == 'j') {
                joined = true;
                if (!readForm("jd n")) {
                    return false;
                }
            }
            return readForm(";");
        }

        /** What stands behind a letter: n a NUMBER, d a digit, others as they are; empty: it is no letter. */
        private static String formOf(int letter) {
            switch (letter) {
                case 'p': return "n n n";
                case 't': return "dd n d n";
                case 'd': return "n";
                case 'w': return "d";
                case 'r': return "d";
                default: return "";
            }
        }

        private boolean readForm(String form) {
            for (int i = 0; i < form.length(); i++) {
                if (!readPart(form.charAt(i))) {
                    return false;
                }
            }
            return true;
        }

        private boolean readPart(char part) {
            if (part == 'n') {
                return readDigits(MOST_DIGITS);
            }
            if (part == 'd') {
                return readDigits(1);
            }
            if (byteHere() != part) {
                return false;
            }
            at++;
            return true;
        }

        private boolean readDigits(int most) {
            if (!isDigit(byteHere())) {
                return false;
            }
            int number = 0;
            // A 0 stays alone: where it is first, no digit may come behind it.
            for (int i = 0; i < most && isDigit(byteHere()) && (i == 0 || number > 0); i++) {
                number = 10 * number + byteHere() - '0';
                at++;
            }
            if (found < numbers.length) {
                numbers[found] = number;
                found++;
            }
            return true;
        }

        private static boolean isDigit(int b) {
            return b >= '0' && b <= '9';
        }

        private int byteHere() {
            return at >= 0 && at < size && at < MOST_ELEMENTS ? bytes[at] : END;
        }

        /** The i-th number of the STATEMENT read last. */
        int numberAt(int i) {
            return i >= 0 && i < numbers.length ? numbers[i] : 0;
        }
    }

    /** An INSTRUMENT: PIECES, THINGS, how all is set, and ASKS. */
    static final class Fiddle {
        int pieceCount;
        int thingCount;
        int askCount;
        final Setting now = new Setting();
        private final Piece[] pieces = new Piece[MOST_PIECES];
        private final Thing[] things = new Thing[MOST_THINGS];
        private final Ask[] asks = new Ask[MOST_ASKS];
        private final int[] swings = new int[MOST_PIECES];

        void become(Fiddle other) {
            pieceCount = other.pieceCount;
            thingCount = other.thingCount;
            askCount = other.askCount;
            now.become(other.now);
            for (int i = 0; i < MOST_PIECES; i++) {
                pieces[i] = other.pieces[i];
            }
            for (int i = 0; i < MOST_THINGS; i++) {
                things[i] = other.things[i];
            }
            for (int i = 0; i < MOST_ASKS; i++) {
                asks[i] = other.asks[i];
            }
        }

        boolean isPiece(int i) {
            return i >= 0 && i < pieceCount && i < MOST_PIECES;
        }

        boolean isThing(int i) {
            return i >= 0 && i < thingCount && i < MOST_THINGS;
        }

        /** Null: there is no such PIECE. */
        Piece pieceAt(int i) {
            return isPiece(i) ? pieces[i] : null;
        }

        /** Null: there is no such THING. */
        Thing thingAt(int i) {
            return isThing(i) ? things[i] : null;
        }

        /** Null: there is no such ASK. */
        Ask askAt(int i) {
            return i >= 0 && i < askCount && i < MOST_ASKS ? asks[i] : null;
        }

        /** Does what a STATEMENT says; false: it isn't as told. */
        boolean follow(Reader said) {
            int n = said.numberAt(0);
            switch (said.letter) {
                case 'p': return joinPiece(said);
                case 't': return hangThing(said);
                case 'd': return now.tell(0, n);
                case 'w': return now.tell(1, n);
                case 'r': return now.tell(2, n);
                default: return false;
            }
        }

        private boolean joinPiece(Reader said) {
            int tone = said.numberAt(0);
            int loss = said.numberAt(1);
            int weight = said.numberAt(2);
            int joined = said.joined ? said.numberAt(3) : NOBODY;
            int pass = said.joined ? said.numberAt(4) : 0;
            if (askCount > 0 || pieceCount >= MOST_PIECES) {
                return false;
            }
            if (!isWithin(tone, 10, TOP_TONE) || !isWithin(loss, 1, 99) || !isWithin(weight, 1, 99)) {
                return false;
            }
            if (joined != NOBODY && !isPiece(joined) || !isWithin(pass, 0, MOST_PASS)) {
                return false;
            }
            pieces[pieceCount] = new Piece(tone, loss, weight, joined, pass);
            now.layWax(pieceCount, 0);
            pieceCount++;
            return true;
        }

        private boolean hangThing(Reader said) {
            int kind = said.numberAt(0);
            int piece = said.numberAt(1);
            int gap = said.numberAt(2);
            int figure = said.numberAt(3);
            int chance = said.numberAt(4);
            if (askCount > 0 || thingCount >= MOST_THINGS) {
                return false;
            }
            if (!isWithin(kind, 0, Thing.KINDS - 1) || !isPiece(piece)) {
                return false;
            }
            if (!isWithin(gap, 1, MOST_GAP) || !isWithin(chance, 1, MOST_CHANCE)) {
                return false;
            }
            things[thingCount] = new Thing(thingCount, kind, piece, gap, figure, chance);
            thingCount++;
            return true;
        }

        int keepAsk(int f, int strong, boolean heard) {
            if (askCount < MOST_ASKS) {
                Setting asItIs = new Setting();
                asItIs.become(now);
                asks[askCount] = new Ask(f, strong, heard, buzzingAt(f, strong), asItIs);
                askCount++;
            }
            return askCount;
        }

        int swingOf(int piece, Setting at, int f, int strong) {
            if (!isPiece(piece)) {
                return 0;
            }
            // A PIECE is joined to an earlier one, so what it needs is in the row before it.
            for (int i = 0; i <= piece; i++) {
                Piece p = pieces[i];
                if (p == null) {
                    return 0;
                }
                int below = p.lossHeld(at.hand == i) + Math.abs(f - p.toneWith(at.waxOn(i)));
                int own = below > 0 ? strong * 100 / below : 0;
                int come = p.joined >= 0 && p.joined < i ? p.passWith(at.post) * swings[p.joined] / 100 : 0;
                swings[i] = own + come;
            }
            return swings[piece];
        }

        private int swingsInRow() {
            int sum = 0;
            for (int i = 0; i < pieceCount && i < MOST_PIECES; i++) {
                sum += swings[i];
            }
            return sum;
        }

        int swingsOf(Thing t, Setting at, int f, int strong) {
            switch (t.kind) {
                case Thing.STRINGED:
                    return Math.max(swingOf(t.piece, at, f, strong), swingOf(t.piece, at, 2 * f, strong));
                case Thing.WITHIN:
                    // The last PIECE's SWING leaves those of all others in the row.
                    swingOf(pieceCount - 1, at, f, strong);
                    return swingsInRow() / 4;
                case Thing.WORN:
                    return at.player == 1 ? swingOf(t.piece, at, f, strong) : 0;
                case Thing.ROOMED:
                    return at.room == t.figure % 4 ? strong * (t.figure + 1) : 0;
                default:
                    return swingOf(t.piece, at, f, strong);
            }
        }

        /** What a THING would take to STRIKE with this GAP. */
        int strikesOf(Thing t, int gap, Setting at) {
            int seamed = Math.max(1, gap - at.dry * t.figure);
            switch (t.kind) {
                case Thing.SEAMED: return seamed;
                case Thing.FITTED: return gap + 10 * t.figure;
                case Thing.CRACKED: return Math.max(1, seamed / 2);
                case Thing.WORN: return gap + lossNow(t.piece, at);
                default: return gap;
            }
        }

        private int lossNow(int piece, Setting at) {
            // Not by pieceAt, for calls come deep already where it is asked.
            Piece p = isPiece(piece) ? pieces[piece] : null;
            return p == null ? 0 : p.lossHeld(at.hand == piece);
        }

        boolean isBuzzing(Thing t, Setting at, int f, int strong) {
            return swingsOf(t, at, f, strong) > strikesOf(t, t.gap, at);
        }

        /** The THINGS that BUZZ as it is now (bits). */
        int buzzingAt(int f, int strong) {
            int bits = 0;
            for (int i = 0; i < thingCount; i++) {
                Thing t = thingAt(i);
                if (t != null && isBuzzing(t, now, f, strong)) {
                    bits |= 1 << i;
                }
            }
            return bits;
        }

        boolean isFit(int set) {
            for (int i = 0; i < askCount; i++) {
                Ask ask = askAt(i);
                if (ask != null && !ask.isFit(set)) {
                    return false;
                }
            }
            return true;
        }

        /** The single THINGS that FIT (bits). */
        int fitting() {
            int bits = 0;
            for (int i = 0; i < thingCount; i++) {
                if (isFit(1 << i)) {
                    bits |= 1 << i;
                }
            }
            return bits;
        }

        int chancesOf(int set) {
            int sum = 0;
            for (int i = 0; i < thingCount; i++) {
                Thing t = thingAt(i);
                if (t != null && (set >> i & 1) != 0) {
                    sum += t.chance;
                }
            }
            return sum;
        }

        int costsOf(int set) {
            int sum = 0;
            for (int i = 0; i < thingCount; i++) {
                Thing t = thingAt(i);
                if (t != null && (set >> i & 1) != 0) {
                    sum += t.cost();
                }
            }
            return sum;
        }

        int seamStrikes(Setting at) {
            int sum = 0;
            for (int i = 0; i < thingCount; i++) {
                Thing t = thingAt(i);
                if (t != null && t.isSeam()) {
                    sum += strikesOf(t, t.gap, at);
                }
            }
            return sum;
        }

        private int toneIn(int piece, Setting at) {
            Piece p = pieceAt(piece);
            return p == null ? 0 : p.toneWith(at.waxOn(piece));
        }

        /** By how much n more WAX lowers the tone of a PIECE. */
        int shiftBy(int piece, int n) {
            Piece p = pieceAt(piece);
            return p == null ? 0 : toneIn(piece, now) - p.toneWith(now.waxOn(piece) + n);
        }

        int apart(int a, int b, Setting at) {
            return Math.abs(toneIn(a, at) - toneIn(b, at));
        }

        private boolean isWolf(int a, int b, Setting at) {
            Piece p = pieceAt(b);
            return p != null && p.joined == a && apart(a, b, at) < WOLF_WIDTH;
        }

        int wolves(Setting at) {
            int count = 0;
            for (int b = 0; b < pieceCount; b++) {
                Piece p = pieceAt(b);
                if (p != null && p.joined >= 0 && isWolf(p.joined, b, at)) {
                    count++;
                }
            }
            return count;
        }

        /** The i-th WOLF as 10 a and b; -4: there are not so many. */
        int wolfAt(int i, Setting at) {
            int before = 0;
            for (int a = 0; a < pieceCount; a++) {
                for (int b = a + 1; b < pieceCount; b++) {
                    if (isWolf(a, b, at)) {
                        if (before == i) {
                            return 10 * a + b;
                        }
                        before++;
                    }
                }
            }
            return NONE;
        }

        int allWax() {
            int sum = 0;
            for (int i = 0; i < pieceCount; i++) {
                sum += now.waxOn(i);
            }
            return sum;
        }

        int asksHeard() {
            int sum = 0;
            for (int i = 0; i < askCount; i++) {
                Ask ask = askAt(i);
                if (ask != null && ask.heard) {
                    sum++;
                }
            }
            return sum;
        }
    }
}
