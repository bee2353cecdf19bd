/** A sea with rocks, a light that believes more or less of them, and ships that go by that light. */
public final class LighthouseLiedTo {
    public static final int NONE = -1, BAD = -2, STATE = -3, FULL = -4;
    public static final long NO = -4611686018427387904L;

    private static final int NO_SUCH = -5, NOT_AS_TOLD = -7;
    private static final int MISSING = -11, OUTSIDE = -12, OTHER_SORT = -13, BELOW_ZERO = -14;
    private static final int NOT_SAID = -1000, NOT_LIKED = -100000, FAULT = -100;

    private static final int CELLS = 36, SIDE = 6, SHIPS = 6, KINDS = 6, TEXTS = 6, SHEETS = 4;
    private static final int TAPE = 160, ROW_OF_SHEET = 40, TOLD_NIGHTS = 20, LAST_NIGHT = 999, MOST = 99;
    private static final int LAST_SEED = 99999, TALE_NIGHTS = 6;
    private static final long LOT_FACTOR = 48271L, LOT_MODULUS = 2147483647L;
    private static final String FIRST_TEXT = "shines 50 + column + row - belief ; fades 3 ; fears belief ;";

    private final Law[] texts = new Law[TEXTS];
    private final Sea now;
    private final Sea thought;
    private final Sea kept;
    private final Sheet[] sheets = new Sheet[SHEETS];
    private final int[] tape = new int[TAPE];
    private final Reader reader = new Reader();
    private int textCount;
    private int tapeSize;
    private boolean hasImage;

    public LighthouseLiedTo() {
        for (int t = 0; t < TEXTS; t++) {
            texts[t] = new Law();
        }
        for (int q = 0; q < SHEETS; q++) {
            sheets[q] = new Sheet();
        }
        now = new Sea(texts);
        thought = new Sea(texts);
        kept = new Sea(texts);
        for (int i = 0; i < FIRST_TEXT.length() && i < TAPE; i++) {
            tape[i] = FIRST_TEXT.charAt(i);
        }
        reader.read(tape, FIRST_TEXT.length(), texts[0]);
        textCount = 1;
    }

    // ---- the sea, the light, the law, ships

    public int count(int what) {
        switch (what) {
            case 0: return now.ships;
            case 1: return Integer.bitCount(now.afloat());
            case 2: return now.night;
            case 3: return now.doubt;
            case 4: return Long.bitCount(now.rocks);
            case 5: return textCount;
            case 6: return now.law;
            case 7: return tapeSize;
            default: return BAD;
        }
    }

    public int rock(int c, int is) {
        if (!isCell(c)) {
            return NO_SUCH;
        }
        if (!within(is, 0, 1)) {
            return NOT_AS_TOLD;
        }
        int was = now.hasRock(c) ? 1 : 0;
        now.rocks = now.rocks & ~(1L << c) | (long) is << c;
        return was;
    }

    public int tell(int c, int v) {
        if (!isCell(c)) {
            return NO_SUCH;
        }
        if (!within(v, -MOST, MOST)) {
            return NOT_AS_TOLD;
        }
        now.hear(c, v);
        return now.belief[c];
    }

    public int believes(int c) {
        return isCell(c) ? now.belief[c] : NO_SUCH;
    }

    public int doubts(int v) {
        if (!within(v, 0, MOST)) {
            return BAD;
        }
        int was = now.doubt;
        now.doubt = v;
        return was;
    }

    public int feed(int n, int a, int b, int c, int d, int e) {
        if (!within(n, 1, 5) || !isByte(a) || !isByte(b) || !isByte(c) || !isByte(d) || !isByte(e)) {
            return BAD;
        }
        if (tapeSize + n > TAPE) {
            return FULL;
        }
        for (int i = 0; i < n && tapeSize < TAPE; i++) {
            tape[tapeSize] = i == 0 ? a : i == 1 ? b : i == 2 ? c : i == 3 ? d : e;
            tapeSize++;
        }
        return tapeSize;
    }

    public int text() {
        if (textCount >= TEXTS) {
            return FULL;
        }
        int fault = reader.read(tape, tapeSize, texts[textCount]);
        tapeSize = 0;
        if (fault >= 0) {
            return FAULT - fault;
        }
        textCount++;
        return textCount - 1;
    }

    public int force(int t) {
        if (!within(t, 0, textCount - 1)) {
            return BAD;
        }
        int was = now.law;
        now.law = t;
        return was;
    }

    public int asks(int part, int c, int s) {
        if (!within(part, 0, 2) || !isCell(c) || s != NONE && !isShip(s)) {
            return NOT_SAID;
        }
        return now.says(part, c, s == NONE ? 0 : now.draught[s]);
    }

    public int ship(int kindMore, int cellDraught) {
        if (!within(kindMore, 0, KINDS * 10 - 1) || !within(cellDraught, 0, CELLS * 100 - 1)) {
            return BAD;
        }
        if (now.ships >= SHIPS) {
            return FULL;
        }
        return now.launch(kindMore, cellDraught);
    }

    public int put(int s, int what, int v) {
        if (!isShip(s)) {
            return NO_SUCH;
        }
        if (!within(what, 0, 1) || !within(v, 0, what == 0 ? CELLS - 1 : MOST)) {
            return NOT_AS_TOLD;
        }
        int[] row = what == 0 ? now.cell : now.draught;
        int was = row[s];
        row[s] = v;
        return was;
    }

    public int told(int s, int what) {
        if (!isShip(s)) {
            return NO_SUCH;
        }
        switch (what) {
            case 0: return now.cell[s];
            case 1: return now.draught[s];
            case 2: return now.kind[s];
            case 3: return now.more[s];
            case 4: return now.isLost(s) ? 1 : 0;
            case 5: return now.goal(s);
            case 6: return now.sinking(s) ? 1 : 0;
            default: return NOT_AS_TOLD;
        }
    }

    // ---- nights

    public int likes(int s, int c) {
        return isShip(s) && isCell(c) ? now.liking(s, c) : NOT_LIKED;
    }

    public int night() {
        if (now.night >= LAST_NIGHT) {
            return STATE;
        }
        int before = now.lost;
        now.passNight();
        return now.lost & ~before;
    }

    public int run(int n, int what) {
        boolean ofShip = what >= 10 && isShip(what - 10);
        if (!within(n, 0, 40) || !within(what, 0, 2) && !ofShip && !within(what, 20, 20 + CELLS - 1)) {
            return BAD;
        }
        think();
        thought.lossesIn(n);
        if (ofShip) {
            return thought.cell[what - 10];
        }
        switch (what) {
            case 0: return thought.afloat();
            case 1: return thought.allBelief();
            case 2: return thought.doubt;
            default: return thought.belief[what - 20];
        }
    }

    public int lostBy(int s, int what) {
        if (!isShip(s)) {
            return NO_SUCH;
        }
        if (!within(what, 0, 1)) {
            return NOT_AS_TOLD;
        }
        if (now.isLost(s)) {
            return STATE;
        }
        think();
        for (int n = 1; n <= 40; n++) {
            thought.passNight();
            if (thought.isLost(s)) {
                return what == 0 ? n : thought.cell[s];
            }
        }
        return NONE;
    }

    public long track(int s, int n) {
        if (!isShip(s) || !within(n, 0, 40)) {
            return NO;
        }
        think();
        long cells = 1L << thought.cell[s];
        for (int i = 0; i < n; i++) {
            thought.passNight();
            cells |= 1L << thought.cell[s];
        }
        return cells;
    }

    public long sea(int what) {
        switch (what) {
            case 0: return now.rocks;
            case 1: return now.brightest();
            case 2: return now.surelyRocks() & ~now.rocks;
            case 3: return now.rocks & ~now.surelyRocks();
            default: return NO;
        }
    }

    // ---- what is best

    public int lie(int v, int n, int what) {
        if (!within(v, -MOST, MOST) || !within(n, 0, 20) || !within(what, 0, 1)) {
            return BAD;
        }
        think();
        int fewest = thought.lossesIn(n);
        int best = NONE;
        for (int c = 0; c < CELLS && fewest > 0; c++) {
            think();
            thought.hear(c, v);
            int losses = thought.lossesIn(n);
            if (losses < fewest) {
                fewest = losses;
                best = c;
            }
        }
        return what == 0 ? best : fewest;
    }

    public int blow(int n, int what) {
        if (!within(n, 0, 20) || !within(what, 0, 1)) {
            return BAD;
        }
        think();
        int fewest = thought.lossesIn(n);
        int best = NONE;
        for (int c = 0; c < CELLS && fewest > 0; c++) {
            if (now.hasRock(c)) {
                think();
                thought.rocks &= ~(1L << c);
                int losses = thought.lossesIn(n);
                if (losses < fewest) {
                    fewest = losses;
                    best = c;
                }
            }
        }
        return what == 0 ? best : fewest;
    }

    public long safe(int s, int n) {
        if (!isShip(s) || !within(n, 0, 20) || now.isLost(s)) {
            return NO;
        }
        long cells = 0;
        for (int c = 0; c < CELLS; c++) {
            think();
            thought.cell[s] = c;
            thought.lossesIn(n);
            if (!thought.isLost(s)) {
                cells |= 1L << c;
            }
        }
        return cells;
    }

    public int trust(int c, int v, int n) {
        if (!isCell(c)) {
            return NO_SUCH;
        }
        if (!within(v, -MOST, MOST) || !within(n, 0, 10)) {
            return NOT_AS_TOLD;
        }
        for (int doubt = 0; doubt <= 90; doubt += 10) {
            think();
            thought.doubt = doubt;
            thought.hear(c, v);
            if (thought.lossesIn(n) == 0) {
                return doubt;
            }
        }
        return NONE;
    }

    public long truth(int part) {
        return inLowestTerms(now.trueBelief(), now.allBelief(), part);
    }

    // ---- told nights

    public int judge(int q, int s) {
        int refusal = refusalToJudge(q, s);
        if (refusal != 0) {
            return refusal;
        }
        think();
        return firstOtherwise(q, s);
    }

    public int kinds(int q, int s, int sort) {
        int refusal = refusalToJudge(q, s);
        if (refusal != 0) {
            return refusal;
        }
        if (!within(sort, 0, 1)) {
            return NOT_AS_TOLD;
        }
        int[] row = sort == 0 ? thought.kind : thought.more;
        int values = sort == 0 ? KINDS : 10;
        int fitting = 0;
        for (int value = 0; value < values; value++) {
            think();
            row[s] = value;
            if (firstOtherwise(q, s) == NONE) {
                fitting |= 1 << value;
            }
        }
        return fitting;
    }

    public long places(int q, int s) {
        if (refusalToJudge(q, s) != 0) {
            return NO;
        }
        long fitting = 0;
        for (int c = 0; c < CELLS; c++) {
            think();
            thought.cell[s] = c;
            if (firstOtherwise(q, s) == NONE) {
                fitting |= 1L << c;
            }
        }
        return fitting;
    }

    public int draughts(int q, int s, int what) {
        int refusal = refusalToJudge(q, s);
        if (refusal != 0) {
            return refusal;
        }
        if (!within(what, 0, 1)) {
            return NOT_AS_TOLD;
        }
        int fitting = 0;
        int least = NONE;
        for (int draught = 0; draught <= MOST; draught++) {
            think();
            thought.draught[s] = draught;
            if (firstOtherwise(q, s) == NONE) {
                fitting++;
                least = least == NONE ? draught : least;
            }
        }
        return what == 0 ? fitting : least;
    }

    public int whose(int q) {
        int refusal = refusalOfTold(q);
        if (refusal != 0) {
            return refusal;
        }
        int fitting = 0;
        for (int s = 0; s < now.ships; s++) {
            think();
            if (firstOtherwise(q, s) == NONE) {
                fitting |= 1 << s;
            }
        }
        return fitting;
    }

    public int laws(int q, int s) {
        int refusal = refusalToJudge(q, s);
        if (refusal != 0) {
            return refusal;
        }
        int fitting = 0;
        for (int t = 0; t < textCount; t++) {
            think();
            thought.law = t;
            if (firstOtherwise(q, s) == NONE) {
                fitting |= 1 << t;
            }
        }
        return fitting;
    }

    public int film(int q, int s, int n) {
        if (!isSheet(q)) {
            return BAD;
        }
        if (!isShip(s)) {
            return NO_SUCH;
        }
        if (!within(n, 0, TOLD_NIGHTS)) {
            return NOT_AS_TOLD;
        }
        think();
        sheets[q].become(Sheet.BYTES, n);
        for (int i = 0; i < n; i++) {
            thought.passNight();
            sheets[q].set(i, thought.cell[s]);
        }
        return n;
    }

    // ---- tales by lots

    public int drawn(int seed, int v, int what) {
        if (!within(seed, 0, LAST_SEED) || !within(v, -MOST, MOST) || !within(what, 0, 1)) {
            return BAD;
        }
        int losses = lossesByTale(seed, v);
        return what == 0 ? losses : thought.afloat();
    }

    public long odds(int seed, int seeds, int v, int most, int part) {
        if (!within(seed, 0, LAST_SEED) || !within(seeds, 1, 40) || !within(v, -MOST, MOST) || !within(most, 0, SHIPS)) {
            return NO;
        }
        int good = 0;
        for (int i = 0; i < seeds; i++) {
            if (lossesByTale(seed + i, v) <= most) {
                good++;
            }
        }
        return inLowestTerms(good, seeds, part);
    }

    public int image() {
        kept.become(now);
        hasImage = true;
        return now.ships;
    }

    public int back() {
        if (!hasImage) {
            return STATE;
        }
        now.become(kept);
        return now.ships;
    }

    // ---- the host

    public int sheet(int s, int sort, int n) {
        if (!isSheet(s) || !within(sort, Sheet.GONE, Sheet.INTS)) {
            return BAD;
        }
        if (sort == Sheet.GONE) {
            sheets[s].become(Sheet.GONE, 0);
            return 1;
        }
        if (n > ROW_OF_SHEET) {
            return BAD;
        }
        if (n < 0) {
            return BELOW_ZERO;
        }
        sheets[s].become(sort, n);
        return 1;
    }

    public int cell(int s, int i, int v) {
        if (!isSheet(s)) {
            return BAD;
        }
        if (sheets[s].sort == Sheet.GONE) {
            return MISSING;
        }
        if (!sheets[s].has(i)) {
            return OUTSIDE;
        }
        sheets[s].set(i, v);
        return 1;
    }

    public int copy(int s, int i, int other, int j, int n) {
        if (!isSheet(s) || !isSheet(other)) {
            return BAD;
        }
        Sheet from = sheets[s];
        Sheet to = sheets[other];
        if (from.sort == Sheet.GONE || to.sort == Sheet.GONE) {
            return MISSING;
        }
        if (from.sort != to.sort) {
            return OTHER_SORT;
        }
        if (!from.holds(i, n) || !to.holds(j, n)) {
            return OUTSIDE;
        }
        System.arraycopy(from.numbers, i, to.numbers, j, n);
        return n;
    }

    public int shipsBy(int s, int sort, int from, int n) {
        if (!isSheet(s) || !within(sort, Sheet.BYTES, Sheet.INTS) || !within(n, 0, SHIPS)) {
            return BAD;
        }
        Sheet told = sheets[s];
        if (told.sort == Sheet.GONE) {
            return MISSING;
        }
        if (told.sort != sort) {
            return OTHER_SORT;
        }
        int came = 0;
        for (int k = 0; k < n; k++) {
            int at = from + 2 * k;
            if (!told.holds(at, 2)) {
                return OUTSIDE;
            }
            if (ship(told.numbers[at], told.numbers[at + 1]) >= 0) {
                came++;
            }
        }
        return came;
    }

    public int taken(int i, int kind) {
        if (!within(kind, 0, KINDS)) {
            return BAD;
        }
        if (!within(i, 0, SHIPS + CELLS - 1)) {
            return OUTSIDE;
        }
        if (i >= SHIPS) {
            return kind == KINDS ? now.belief[i - SHIPS] : OTHER_SORT;
        }
        if (!isShip(i)) {
            return MISSING;
        }
        return now.isOne(i, kind) ? i : OTHER_SORT;
    }

    // ---- of all of them

    private static boolean within(int v, int least, int most) {
        return v >= least && v <= most;
    }

    private static boolean isByte(int v) {
        return within(v, 0, 255);
    }

    private static boolean isCell(int c) {
        return within(c, 0, CELLS - 1);
    }

    private static boolean isSheet(int q) {
        return within(q, 0, SHEETS - 1);
    }

    private boolean isShip(int s) {
        return within(s, 0, now.ships - 1);
    }

    private void think() {
        thought.become(now);
    }

    private int refusalOfTold(int q) {
        if (!isSheet(q)) {
            return BAD;
        }
        if (sheets[q].sort == Sheet.GONE) {
            return MISSING;
        }
        return sheets[q].size > TOLD_NIGHTS ? BAD : 0;
    }

    private int refusalToJudge(int q, int s) {
        int refusal = refusalOfTold(q);
        if (refusal != 0) {
            return refusal;
        }
        return isShip(s) ? 0 : NO_SUCH;
    }

    /** Goes on from the thought as the caller has set it, so that one reading serves every "were it so". */
    private int firstOtherwise(int q, int s) {
        Sheet told = sheets[q];
        for (int i = 0; i < told.size && i < told.numbers.length; i++) {
            thought.passNight();
            if (thought.cell[s] != told.numbers[i]) {
                return i;
            }
        }
        return NONE;
    }

    private int lossesByTale(int seed, int v) {
        think();
        long lot = (seed + 1L) * LOT_FACTOR % LOT_MODULUS;
        for (int i = 0; i < TALE_NIGHTS; i++) {
            thought.hear((int) (lot % CELLS), v);
            thought.passNight();
            lot = lot * LOT_FACTOR % LOT_MODULUS;
        }
        return Integer.bitCount(thought.lost & ~now.lost);
    }

    private static long inLowestTerms(int above, int below, int part) {
        if (below <= 0 || !within(part, 0, 1)) {
            return NO;
        }
        int divisor = commonDivisor(above, below);
        if (divisor <= 0) {
            return NO;
        }
        return part == 0 ? above / divisor : below / divisor;
    }

    private static int commonDivisor(int a, int b) {
        int divisor = a;
        int rest = b;
        // Euclid's steps for ints are fewer than 50.
        for (int i = 0; i < 100 && rest != 0; i++) {
            int next = divisor % rest;
            divisor = rest;
            rest = next;
        }
        return divisor;
    }

    /** All that an image keeps: one sea is true, one is for thoughts, one is the image. */
    private static final class Sea {
        static final int SHINES = 0, FADES = 1, FEARS = 2;
        static final int POST = 1, BARGE = 2, WRECKER = 3, RAFT = 4, GHOST = 5;
        private static final int[] KIND_ABOVE = {-1, 0, 0, 1, 2, 0};
        private static final int WAYS = 4, SURE = 50;

        final Law[] texts;
        final int[] belief = new int[CELLS];
        final int[] kind = new int[SHIPS];
        final int[] more = new int[SHIPS];
        final int[] cell = new int[SHIPS];
        final int[] draught = new int[SHIPS];
        long rocks;
        int lost;
        int ships;
        int doubt;
        int night;
        int law;

        Sea(Law[] texts) {
            this.texts = texts;
        }

        void become(Sea other) {
            System.arraycopy(other.belief, 0, belief, 0, CELLS);
            System.arraycopy(other.kind, 0, kind, 0, SHIPS);
            System.arraycopy(other.more, 0, more, 0, SHIPS);
            System.arraycopy(other.cell, 0, cell, 0, SHIPS);
            System.arraycopy(other.draught, 0, draught, 0, SHIPS);
            rocks = other.rocks;
            lost = other.lost;
            ships = other.ships;
            doubt = other.doubt;
            night = other.night;
            law = other.law;
        }

        boolean hasRock(int c) {
            return (rocks >>> c & 1L) != 0;
        }

        boolean isLost(int s) {
            return (lost >>> s & 1) != 0;
        }

        int afloat() {
            return (1 << ships) - 1 & ~lost;
        }

        int allBelief() {
            int sum = 0;
            for (int c = 0; c < CELLS; c++) {
                sum += belief[c];
            }
            return sum;
        }

        int trueBelief() {
            int sum = 0;
            for (int c = 0; c < CELLS; c++) {
                sum += hasRock(c) ? belief[c] : 0;
            }
            return sum;
        }

        long surelyRocks() {
            long cells = 0;
            for (int c = 0; c < CELLS; c++) {
                cells |= belief[c] >= SURE ? 1L << c : 0L;
            }
            return cells;
        }

        long brightest() {
            long cells = 0;
            int most = -MOST - 1;
            for (int c = 0; c < CELLS; c++) {
                int bright = says(SHINES, c, 0);
                if (bright > most) {
                    most = bright;
                    cells = 0;
                }
                if (bright == most) {
                    cells |= 1L << c;
                }
            }
            return cells;
        }

        int launch(int kindMore, int cellDraught) {
            int s = ships;
            if (s < 0 || s >= SHIPS) {
                return FULL;
            }
            kind[s] = kindMore / 10;
            more[s] = kindMore % 10;
            cell[s] = cellDraught / 100;
            draught[s] = cellDraught % 100;
            lost &= ~(1 << s);
            ships++;
            return s;
        }

        boolean isOne(int s, int wanted) {
            int k = kind[s];
            for (int i = 0; i < KINDS && k >= 0 && k < KIND_ABOVE.length; i++) {
                if (k == wanted) {
                    return true;
                }
                k = KIND_ABOVE[k];
            }
            return false;
        }

        void hear(int c, int v) {
            int times = 1 + doubt / 10;
            int share = times > 0 ? v / times : v;
            belief[c] = Math.max(0, Math.min(MOST, belief[c] + share));
        }

        int says(int part, int c, int draughtOfShip) {
            Law text = law >= 0 && law < texts.length ? texts[law] : null;
            if (text == null) {
                return 0;
            }
            int worth = text.worth(part, this, c, draughtOfShip);
            return Math.max(part == FADES ? 0 : -MOST, Math.min(MOST, worth));
        }

        int liking(int s, int c) {
            int extra = c / SIDE == more[s] % SIDE ? 20 : 0;
            switch (kind[s]) {
                case POST: return says(SHINES, c, draught[s]) - says(FEARS, c, draught[s]);
                case BARGE: return says(SHINES, c, draught[s]) + extra;
                case WRECKER: return says(FEARS, c, draught[s]) - says(SHINES, c, draught[s]);
                case RAFT: return (says(SHINES, c, draught[s]) + extra) / 10;
                case GHOST: return c == 4 * more[s] % CELLS ? MOST : says(FEARS, c, draught[s]);
                default: return says(SHINES, c, draught[s]);
            }
        }

        boolean sinking(int s) {
            switch (kind[s]) {
                case BARGE: return draught[s] > more[s];
                case RAFT: return night % 5 == 0 && draught[s] > more[s];
                case GHOST: return false;
                default: return true;
            }
        }

        int teaching(int s) {
            return kind[s] == POST ? MOST / 2 : kind[s] == WRECKER ? 0 : MOST;
        }

        /** The way's number tells the order that the document gives to the cells beside. */
        static int beside(int c, int way) {
            switch (way) {
                case 0: return c % SIDE < SIDE - 1 ? c + 1 : NONE;
                case 1: return c % SIDE > 0 ? c - 1 : NONE;
                case 2: return c + SIDE < CELLS ? c + SIDE : NONE;
                default: return c >= SIDE ? c - SIDE : NONE;
            }
        }

        int goal(int s) {
            int best = cell[s];
            int most = liking(s, best);
            for (int way = 0; way < WAYS; way++) {
                int c = beside(cell[s], way);
                if (c != NONE) {
                    int liked = liking(s, c);
                    if (liked > most) {
                        most = liked;
                        best = c;
                    }
                }
            }
            return best;
        }

        void passNight() {
            for (int s = 0; s < ships && s < SHIPS; s++) {
                if (!isLost(s)) {
                    cell[s] = goal(s);
                    if (hasRock(cell[s]) && sinking(s)) {
                        lose(s);
                    }
                }
            }
            for (int c = 0; c < CELLS; c++) {
                // No fading takes a belief below 0, so there is none to ask for at 0.
                if (belief[c] > 0) {
                    belief[c] = Math.max(0, belief[c] - says(FADES, c, 0));
                }
            }
            night++;
        }

        private void lose(int s) {
            int c = cell[s];
            lost |= 1 << s;
            if (belief[c] < SURE) {
                doubt = Math.min(MOST, doubt + 1);
            }
            belief[c] = Math.max(belief[c], teaching(s));
        }

        int lossesIn(int nights) {
            int before = lost;
            for (int i = 0; i < nights; i++) {
                passNight();
            }
            return Integer.bitCount(lost & ~before);
        }
    }

    /** A text, kept as what is to be done one by one upon a stack: asking it makes nothing new. */
    private static final class Law {
        static final int BELIEF = -1, COLUMN = -2, ROW = -3, NIGHT = -4, DOUBT = -5, DRAUGHT = -6;
        static final int OR = -7, AND = -8, LESS = -9, SAME = -10, PLUS = -11, MINUS = -12, TIMES = -13;
        static final int NOT = -14, NEGATE = -15;
        static final int PARTS = 3;

        // No text has more of either than bytes.
        private final int[] steps = new int[TAPE];
        private final int[] stack = new int[TAPE];
        private final int[] ends = new int[PARTS];
        private int size;

        void clear() {
            size = 0;
        }

        void add(int step) {
            if (size < steps.length) {
                steps[size] = step;
                size++;
            }
        }

        void endPart(int part) {
            if (part >= 0 && part < PARTS) {
                ends[part] = size;
            }
        }

        int worth(int part, Sea sea, int c, int draught) {
            if (part < 0 || part >= PARTS) {
                return 0;
            }
            int top = 0;
            for (int i = part == 0 ? 0 : ends[part - 1]; i < ends[part] && i < steps.length; i++) {
                int step = steps[i];
                if (step >= DRAUGHT) {
                    if (top >= stack.length) {
                        return 0;
                    }
                    stack[top] = step >= 0 ? step : named(step, sea, c, draught);
                    top++;
                } else if (step <= NOT) {
                    if (top < 1) {
                        return 0;
                    }
                    int value = stack[top - 1];
                    stack[top - 1] = step == NEGATE ? -value : value == 0 ? 1 : 0;
                } else {
                    if (top < 2) {
                        return 0;
                    }
                    top--;
                    stack[top - 1] = joined(step, stack[top - 1], stack[top]);
                }
            }
            return top > 0 ? stack[0] : 0;
        }

        private static int named(int name, Sea sea, int c, int draught) {
            switch (name) {
                case BELIEF: return sea.belief[c];
                case COLUMN: return c % SIDE;
                case ROW: return c / SIDE;
                case NIGHT: return sea.night;
                case DOUBT: return sea.doubt;
                default: return draught;
            }
        }

        private static int joined(int sign, int left, int right) {
            switch (sign) {
                case OR: return left != 0 || right != 0 ? 1 : 0;
                case AND: return left != 0 && right != 0 ? 1 : 0;
                case LESS: return left < right ? 1 : 0;
                case SAME: return left == right ? 1 : 0;
                case PLUS: return left + right;
                case MINUS: return left - right;
                default: return left * right;
            }
        }
    }

    /** Reads a tape token by token; the first one that can't stand is the fault, whatever is wrong with it. */
    private static final class Reader {
        // Beside the steps of a law, which are tokens, too, and numbers, which are 0 or more.
        private static final int OPEN = -16, CLOSE = -17, STOP = -18, SHINES = -19, FADES = -20, FEARS = -21;
        private static final int END = -22, WRONG = -23;
        private static final int COMPARED = 2, ONE = 5;
        private static final int MOST_OPEN = 5, MOST_DIGITS = 4;

        private int[] tape;
        private int size;
        private int at;
        private int token;
        private int place;
        private int fault;
        private Law law;

        /** The place of the fault, or -1: then the law is what the tape says. */
        int read(int[] bytes, int bytesUsed, Law law) {
            if (bytes == null || law == null || bytesUsed < 0 || bytesUsed > bytes.length) {
                return 0;
            }
            tape = bytes;
            size = bytesUsed;
            this.law = law;
            at = 0;
            fault = NONE;
            law.clear();
            advance();
            for (int part = 0; part < Law.PARTS; part++) {
                expect(part == 0 ? SHINES : part == 1 ? FADES : FEARS);
                joined(0, 0);
                expect(STOP);
                law.endPart(part);
            }
            expect(END);
            return fault;
        }

        private void fail() {
            if (fault == NONE) {
                fault = place;
            }
        }

        private void expect(int wanted) {
            if (token != wanted) {
                fail();
            }
            if (fault == NONE) {
                advance();
            }
        }

        /** Rank by rank: 0 or, 1 and, 2 what is compared (or not), 3 sums, 4 terms, 5 one. */
        private void joined(int rank, int open) {
            if (rank >= ONE) {
                one(open);
                return;
            }
            if (rank == COMPARED && token == Law.NOT) {
                if (mayOpen(open)) {
                    advance();
                    joined(COMPARED, open + 1);
                    law.add(Law.NOT);
                }
                return;
            }
            joined(rank + 1, open);
            int most = rank == COMPARED ? 1 : TAPE;
            for (int i = 0; i < most && fault == NONE && rankOf(token) == rank; i++) {
                int sign = token;
                advance();
                joined(rank + 1, open);
                law.add(sign);
            }
        }

        private void one(int open) {
            if (fault != NONE) {
                return;
            }
            if (token >= Law.DRAUGHT) {
                law.add(token);
                advance();
            } else if (token == Law.MINUS) {
                if (mayOpen(open)) {
                    advance();
                    one(open + 1);
                    law.add(Law.NEGATE);
                }
            } else if (token == OPEN) {
                if (mayOpen(open)) {
                    advance();
                    joined(0, open + 1);
                    // Not by expect(), which would be a call more where they stand deepest.
                    if (token != CLOSE) {
                        fail();
                    }
                    if (fault == NONE) {
                        advance();
                    }
                }
            } else {
                fail();
            }
        }

        private boolean mayOpen(int open) {
            if (open >= MOST_OPEN) {
                fail();
            }
            return fault == NONE;
        }

        private static int rankOf(int token) {
            switch (token) {
                case Law.OR: return 0;
                case Law.AND: return 1;
                case Law.LESS:
                case Law.SAME: return COMPARED;
                case Law.PLUS:
                case Law.MINUS: return 3;
                case Law.TIMES: return 4;
                default: return NONE;
            }
        }

        private void advance() {
            while (at < size && (tape[at] == ' ' || tape[at] == '\n')) {
                at++;
            }
            place = at;
            if (at >= size) {
                token = END;
            } else if (isLetter(tape[at])) {
                token = word();
            } else if (isDigit(tape[at])) {
                token = number();
            } else {
                token = signOf(tape[at]);
                at++;
            }
        }

        private static boolean isLetter(int b) {
            return b >= 'a' && b <= 'z';
        }

        private static boolean isDigit(int b) {
            return b >= '0' && b <= '9';
        }

        private int number() {
            int value = 0;
            while (at < size && isDigit(tape[at])) {
                value = value * 10 + (tape[at] - '0');
                at++;
            }
            return at - place > MOST_DIGITS ? WRONG : value;
        }

        private int word() {
            while (at < size && isLetter(tape[at])) {
                at++;
            }
            if (spells("belief")) return Law.BELIEF;
            if (spells("column")) return Law.COLUMN;
            if (spells("row")) return Law.ROW;
            if (spells("night")) return Law.NIGHT;
            if (spells("doubt")) return Law.DOUBT;
            if (spells("draught")) return Law.DRAUGHT;
            if (spells("or")) return Law.OR;
            if (spells("and")) return Law.AND;
            if (spells("not")) return Law.NOT;
            if (spells("shines")) return SHINES;
            if (spells("fades")) return FADES;
            return spells("fears") ? FEARS : WRONG;
        }

        private boolean spells(String word) {
            if (word.length() != at - place) {
                return false;
            }
            for (int i = 0; i < word.length(); i++) {
                if (tape[place + i] != word.charAt(i)) {
                    return false;
                }
            }
            return true;
        }

        private static int signOf(int b) {
            switch (b) {
                case '(': return OPEN;
                case ')': return CLOSE;
                case ';': return STOP;
                case '+': return Law.PLUS;
                case '-': return Law.MINUS;
                case '*': return Law.TIMES;
                case '<': return Law.LESS;
                case '=': return Law.SAME;
                default: return WRONG;
            }
        }
    }

    /** A row of numbers, made once at its longest; what it is now, its sort and size tell. */
    private static final class Sheet {
        static final int GONE = -1, BYTES = 0, SHORTS = 1, INTS = 2;

        final int[] numbers = new int[ROW_OF_SHEET];
        int sort = GONE;
        int size;

        void become(int newSort, int newSize) {
            sort = newSort;
            size = newSize;
            for (int i = 0; i < ROW_OF_SHEET; i++) {
                numbers[i] = 0;
            }
        }

        boolean has(int i) {
            return i >= 0 && i < size && i < numbers.length;
        }

        boolean holds(int i, int n) {
            return n >= 0 && n <= size && i >= 0 && i <= size - n;
        }

        void set(int i, int v) {
            if (has(i)) {
                numbers[i] = sort == BYTES ? (byte) v : sort == SHORTS ? (short) v : v;
            }
        }
    }
}
