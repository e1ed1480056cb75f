/**
 * A dairy that gives full bottles for empties, corks and labels, and all that can be asked about
 * a day of drinking and exchanging. README.md says how to use it.
 */
public final class ThreeEmpties {
    public static final int NONE = -1, BAD = -2, STATE = -3, FULL = -4;
    public static final long NO = -4611686018427387904L;

    // Refusals that the document tells by their numbers alone.
    private static final int NO_SUCH = -5, WRONG = -7, UNJUDGED = -9;
    private static final int NOTHING = -11, OUTSIDE = -12, UNLIKE = -13, BELOW = -14;
    private static final int FAULT = -100, NEITHER = -100000;

    // Places of a row that tells how one stands, numbered as of set().
    private static final int FULLS = 0, EMPTIES = 1, CORKS = 2, LABELS = 3;
    private static final int OWES = 4, DRUNK = 5, DAY = 6, PLACES = 7;

    private static final int DRINKS = 0, WORTH = 1, BREAKS = 2, PARTS = 3;
    // The most that each part of a text may say.
    private static final int[] BOUNDS = {3, 99, 100};

    private static final int RATE = 0, LENDING = 1, DAYED = 2, CLUB = 3, MONDAY = 4, CHEAP = 5, KINDS = 6;

    private static final int MOST_HAD = 999, MOST_OWED = 99, MOST_DAY = 99;
    private static final int MOST_RATES = 5, MOST_TEXTS = 6, MOST_BYTES = 160;
    private static final int MOST_MOVES = 200, MOST_AHEAD = 6, MOST_BOUGHT = 60;
    private static final int SHEETS = 4, MOST_NUMBERS = 40, INTS = 2;
    private static final int MOST_SEED = 99999, MOST_SEEDS = 30, DAYS_AHEAD = 14;

    private final int[] now = new int[PLACES];
    // One row for all thoughts: no call thinks of two days at once, but best(), which has its own.
    private final int[] thought = new int[PLACES];
    private final int[][] ahead = new int[MOST_AHEAD + 1][PLACES];
    private final Rates rates = new Rates();
    private final Tape tape = new Tape();
    private final Text[] texts = new Text[MOST_TEXTS];
    private final Sheets sheets = new Sheets();
    private final Kept kept = new Kept();
    private int textsRead;
    private int law;
    private int mostWorth;
    private int mostWorthRow;

    public ThreeEmpties() {
        int[] stack = new int[Text.MOST_STACKED];
        for (int t = 0; t < texts.length; t++) {
            Text text = new Text(stack);
            text.becomeConstant(1, 5, 10);
            texts[t] = text;
        }
        textsRead = 1;
    }

    // ---- what one has, the law

    public int set(int what, int v) {
        if (what < 0 || what >= PLACES) {
            return NONE;
        }
        if (v < 0 || v > mostOf(what)) {
            return BAD;
        }
        int was = now[what];
        now[what] = v;
        return was;
    }

    public int count(int what) {
        if (what >= 0 && what < PLACES) {
            return now[what];
        }
        switch (what) {
            case 7:
                return rates.size;
            case 8:
                return textsRead;
            case 9:
                return law;
            case 10:
                return tape.size;
            default:
                return BAD;
        }
    }

    public int feed(int n, int a, int b, int c, int d, int e) {
        if (n < 1 || n > 5 || !isByte(a) || !isByte(b) || !isByte(c) || !isByte(d) || !isByte(e)) {
            return BAD;
        }
        if (tape.size + n > MOST_BYTES) {
            return FULL;
        }
        for (int i = 0; i < n; i++) {
            tape.append(i == 0 ? a : i == 1 ? b : i == 2 ? c : i == 3 ? d : e);
        }
        return tape.size;
    }

    public int text() {
        Text free = textAt(textsRead);
        if (free == null) {
            return FULL;
        }
        int fault = tape.readInto(free);
        tape.size = 0;
        if (fault >= 0) {
            return FAULT - fault;
        }
        textsRead++;
        return textsRead - 1;
    }

    public int force(int t) {
        if (t < 0 || t >= textsRead) {
            return BAD;
        }
        int was = law;
        law = t;
        return was;
    }

    public int asks(int part) {
        if (part < 0 || part >= PARTS) {
            return BAD;
        }
        return says(law, part, now);
    }

    private static int mostOf(int what) {
        if (what == OWES) {
            return MOST_OWED;
        }
        return what == DAY ? MOST_DAY : MOST_HAD;
    }

    private static boolean isByte(int b) {
        return b >= 0 && b <= 255;
    }

    /** What a part of a text says of one who stands as s tells, within its bounds. */
    private int says(int t, int part, int[] s) {
        Text text = textAt(t);
        if (text == null || part < 0 || part >= BOUNDS.length) {
            return 0;
        }
        return Math.max(0, Math.min(BOUNDS[part], text.reckon(part, s)));
    }

    private Text textAt(int t) {
        return t >= 0 && t < texts.length ? texts[t] : null;
    }

    // ---- rates

    public int rate(int kind, int sortTold, int more) {
        return rates.put(kind, sortTold, more);
    }

    public int change(int r, int kind, int more) {
        if (!rates.has(r)) {
            return NO_SUCH;
        }
        if (!Rates.isKind(kind) || !Rates.isMore(more)) {
            return WRONG;
        }
        int was = rates.kinds[r];
        rates.kinds[r] = kind;
        rates.mores[r] = more;
        return was;
    }

    public int told(int r, int what) {
        if (!rates.has(r)) {
            return NO_SUCH;
        }
        switch (what) {
            case 0:
                return rates.kinds[r];
            case 1:
                return rates.sorts[r];
            case 2:
                return rates.tolds[r];
            case 3:
                return rates.mores[r];
            case 4:
                return rates.takes(r, now[DAY]);
            case 5:
                return rates.gives(r, now[DAY]);
            case 6:
                return rates.lends(r);
            default:
                return WRONG;
        }
    }

    // ---- moves

    public int can(int move) {
        if (!isMove(move)) {
            return NO_SUCH;
        }
        return canMake(now, move) ? 1 : 0;
    }

    public int move(int move) {
        if (!isMove(move)) {
            return NO_SUCH;
        }
        if (!canMake(now, move)) {
            return STATE;
        }
        make(now, move, law);
        return now[DRUNK];
    }

    public int all(int what) {
        if (what < 0 || what > 6) {
            return BAD;
        }
        int[] s = startThought();
        int made = runGreedily(s, MOST_MOVES, NONE, law);
        if (what == 0) {
            return s[DRUNK];
        }
        if (what == 1) {
            return made;
        }
        // 2 .. 6 are the sorts and what one owes, in the order of set().
        return s[what - 2];
    }

    public int go(int n) {
        if (n < 0 || n > MOST_MOVES) {
            return BAD;
        }
        return runGreedily(now, n, NONE, law);
    }

    public int next(int k) {
        if (k < 0 || k >= MOST_MOVES) {
            return BAD;
        }
        int[] s = startThought();
        if (runGreedily(s, k, NONE, law) < k) {
            return NONE;
        }
        return pick(s, NONE);
    }

    public int best(int n, int what) {
        if (n < 0 || n > MOST_AHEAD || what < 0 || what > 1) {
            return BAD;
        }
        mostWorth = 0;
        mostWorthRow = 0;
        System.arraycopy(now, 0, ahead[0], 0, PLACES);
        tryRows(0, n, 0, 0);
        return what == 0 ? mostWorth : mostWorthRow;
    }

    private boolean isMove(int m) {
        return m == 0 || rates.has(m - 1);
    }

    private boolean canMake(int[] s, int m) {
        return m == 0 ? canDrink(s) : canExchange(s, m - 1);
    }

    private static boolean canDrink(int[] s) {
        return s[FULLS] > 0 && s[DRUNK] < MOST_HAD;
    }

    private boolean canExchange(int[] s, int r) {
        if (!rates.has(r)) {
            return false;
        }
        int gives = rates.gives(r, s[DAY]);
        if (gives == 0 || s[FULLS] + gives > MOST_HAD) {
            return false;
        }
        int sort = rates.sorts[r];
        if (sort < EMPTIES || sort > LABELS) {
            return false;
        }
        int lacking = rates.takes(r, s[DAY]) - s[sort];
        if (lacking <= 0) {
            return true;
        }
        return sort == EMPTIES && lacking <= rates.lends(r) - s[OWES];
    }

    /** Makes a move that can be; the law is told, since laws() asks what others would do. */
    private void make(int[] s, int m, int t) {
        if (m == 0) {
            drink(s, says(t, DRINKS, s));
        } else {
            exchange(s, m - 1);
        }
    }

    private static void drink(int[] s, int come) {
        int paid = Math.min(come, s[OWES]);
        s[FULLS]--;
        s[DRUNK]++;
        s[OWES] -= paid;
        s[EMPTIES] = Math.min(MOST_HAD, s[EMPTIES] + come - paid);
        s[CORKS] = Math.min(MOST_HAD, s[CORKS] + 1);
        s[LABELS] = Math.min(MOST_HAD, s[LABELS] + 1);
    }

    private void exchange(int[] s, int r) {
        if (!rates.has(r)) {
            return;
        }
        int sort = rates.sorts[r];
        if (sort < EMPTIES || sort > LABELS) {
            return;
        }
        int takes = rates.takes(r, s[DAY]);
        int given = Math.min(takes, s[sort]);
        s[sort] -= given;
        s[OWES] += takes - given;
        s[FULLS] += rates.gives(r, s[DAY]);
    }

    /** The move that comes next greedily, were the rate "without" not there; NONE if there is none. */
    private int pick(int[] s, int without) {
        if (canDrink(s)) {
            return 0;
        }
        for (int r = 0; r < rates.size; r++) {
            if (r != without && canExchange(s, r)) {
                return r + 1;
            }
        }
        return NONE;
    }

    private int runGreedily(int[] s, int n, int without, int t) {
        for (int made = 0; made < n; made++) {
            int m = pick(s, without);
            if (m == NONE) {
                return made;
            }
            make(s, m, t);
        }
        return n;
    }

    private int[] startThought() {
        System.arraycopy(now, 0, thought, 0, PLACES);
        return thought;
    }

    /** Tries the row that led to ahead[depth], and all that go on so; its moves are the digits of row. */
    private void tryRows(int depth, int n, int worth, int row) {
        if (worth > mostWorth) {
            mostWorth = worth;
            mostWorthRow = row;
        }
        if (depth >= n) {
            return;
        }
        // An exchange at a row's end adds no worth, and the row without it stands ahead.
        int last = depth + 1 == n ? 0 : rates.size;
        for (int m = 0; m <= last; m++) {
            tryMove(m, depth, n, worth, row);
        }
    }

    private void tryMove(int m, int depth, int n, int worth, int row) {
        if (depth < 0 || depth + 1 >= ahead.length || !canMake(ahead[depth], m)) {
            return;
        }
        int[] s = ahead[depth];
        int[] then = ahead[depth + 1];
        int more = m == 0 ? says(law, WORTH, s) : 0;
        System.arraycopy(s, 0, then, 0, PLACES);
        make(then, m, law);
        tryRows(depth + 1, n, worth + more, row * 10 + m + 1);
    }

    // ---- how many to buy

    public int least(int goal, int how) {
        if (goal < 0 || goal > MOST_HAD || how < 0 || how > 1) {
            return BAD;
        }
        for (int fulls = 0; fulls <= MOST_BOUGHT; fulls++) {
            int[] s = endWith(fulls);
            boolean bare = s[FULLS] == 0 && s[EMPTIES] == 0 && s[OWES] == 0;
            if (s[DRUNK] >= goal && (how == 0 || bare)) {
                return fulls;
            }
        }
        return NONE;
    }

    public long bought(int much, int empties) {
        if (much < 0 || much > MOST_HAD || empties < 0 || empties > MOST_HAD) {
            return NO;
        }
        long bits = 0;
        for (int fulls = 0; fulls <= MOST_BOUGHT; fulls++) {
            int[] s = endWith(fulls);
            if (s[DRUNK] == much && s[EMPTIES] == empties) {
                bits |= 1L << fulls;
            }
        }
        return bits;
    }

    public int friends(int a, int b) {
        if (a < 0 || a > MOST_BOUGHT || b < 0 || b > MOST_BOUGHT) {
            return NEITHER;
        }
        int together = endWith(a + b)[DRUNK] - now[DRUNK];
        int alone = endWith(a)[DRUNK] - now[DRUNK];
        int other = endWith(b)[DRUNK] - now[DRUNK];
        return together - alone - other;
    }

    public int worth(int r) {
        if (!rates.has(r)) {
            return NEITHER;
        }
        int[] s = startThought();
        runGreedily(s, MOST_MOVES, NONE, law);
        int drunk = s[DRUNK];
        s = startThought();
        runGreedily(s, MOST_MOVES, r, law);
        return drunk - s[DRUNK];
    }

    /** How one stands greedily in the end, did one have so many fulls now. */
    private int[] endWith(int fulls) {
        int[] s = startThought();
        s[FULLS] = fulls;
        runGreedily(s, MOST_MOVES, NONE, law);
        return s;
    }

    // ---- rounds, days

    public int never(int what) {
        if (what < 0 || what > 1) {
            return BAD;
        }
        int drinks = says(law, DRINKS, now);
        // A row of numbers is read as a number in base 4: so rows go by numbers.
        int rows = 1 << (2 * rates.size);
        int found = 0;
        for (int row = 1; row < rows; row++) {
            if (neverEnds(row, drinks)) {
                if (what == 0) {
                    return inDigits(row);
                }
                found++;
            }
        }
        return what == 0 ? NONE : found;
    }

    public int when(int what) {
        if (what < 0 || what > 1) {
            return BAD;
        }
        int most = -1;
        int later = 0;
        for (int d = 0; d < DAYS_AHEAD; d++) {
            int[] s = startThought();
            s[DAY] += d;
            runGreedily(s, MOST_MOVES, NONE, law);
            if (s[DRUNK] > most) {
                most = s[DRUNK];
                later = d;
            }
        }
        return what == 0 ? later : most;
    }

    private boolean neverEnds(int row, int drinks) {
        int fulls = 0;
        int empties = 0;
        int corks = 0;
        int labels = 0;
        int rest = row;
        for (int r = rates.size - 1; r >= 0 && rates.has(r); r--) {
            int times = rest & 3;
            rest >>= 2;
            int gives = rates.gives(r, now[DAY]);
            if (times > 0 && gives == 0) {
                return false;
            }
            int taken = times * rates.takes(r, now[DAY]);
            int sort = rates.sorts[r];
            fulls += times * gives;
            empties += sort == EMPTIES ? taken : 0;
            corks += sort == CORKS ? taken : 0;
            labels += sort == LABELS ? taken : 0;
        }
        return fulls > 0 && empties <= fulls * drinks && corks <= fulls && labels <= fulls;
    }

    private int inDigits(int row) {
        int digits = 0;
        for (int r = 0; r < rates.size; r++) {
            int times = (row >> (2 * (rates.size - 1 - r))) & 3;
            digits = digits * 10 + times;
        }
        return digits;
    }

    // ---- told moves

    public int judge(int s) {
        int refusal = sheets.refusal(s);
        return refusal != 0 ? refusal : firstWrong(s);
    }

    public int behind(int s, int what) {
        int refusal = sheets.refusal(s);
        if (refusal != 0) {
            return refusal;
        }
        if (what < 0 || what >= PLACES) {
            return WRONG;
        }
        if (firstWrong(s) != NONE) {
            return UNJUDGED;
        }
        return thought[what];
    }

    public int film(int s, int n) {
        if (!Sheets.isSheet(s)) {
            return BAD;
        }
        if (n < 0 || n > MOST_NUMBERS) {
            return WRONG;
        }
        sheets.become(s, INTS, n);
        int[] t = startThought();
        for (int made = 0; made < n; made++) {
            int m = pick(t, NONE);
            if (m == NONE) {
                sheets.shorten(s, made);
                return made;
            }
            sheets.put(s, made, m);
            make(t, m, law);
        }
        return n;
    }

    public int laws(int much) {
        if (much < 0 || much > MOST_HAD) {
            return BAD;
        }
        int bits = 0;
        for (int t = 0; t < textsRead; t++) {
            int[] s = startThought();
            runGreedily(s, MOST_MOVES, NONE, t);
            if (s[DRUNK] == much) {
                bits |= 1 << t;
            }
        }
        return bits;
    }

    /** Makes a sheet's moves in thought, as far as they can be: the place of the first that can't. */
    private int firstWrong(int sheet) {
        int[] s = startThought();
        int size = sheets.sizeOf(sheet);
        for (int i = 0; i < size; i++) {
            int m = sheets.get(sheet, i);
            if (!isMove(m) || !canMake(s, m)) {
                return i;
            }
            make(s, m, law);
        }
        return NONE;
    }

    // ---- years by lot

    public int drawn(int seed, int most) {
        if (seed < 0 || seed > MOST_SEED || most < 0 || most > MOST_MOVES) {
            return BAD;
        }
        return drunkByLot(seed, most);
    }

    public long mean(int seed, int seeds, int most, int part) {
        if (seed < 0 || seed > MOST_SEED || seeds < 1 || seeds > MOST_SEEDS) {
            return NO;
        }
        if (most < 0 || most > MOST_MOVES || part < 0 || part > 1) {
            return NO;
        }
        int sum = 0;
        for (int k = 0; k < seeds; k++) {
            sum += drunkByLot(seed + k, most);
        }
        int divisor = commonDivisor(sum, seeds);
        if (divisor == 0) {
            return NO;
        }
        return (part == 0 ? sum : seeds) / divisor;
    }

    public int image() {
        System.arraycopy(now, 0, kept.stood, 0, PLACES);
        System.arraycopy(rates.kinds, 0, kept.kinds, 0, MOST_RATES);
        System.arraycopy(rates.mores, 0, kept.mores, 0, MOST_RATES);
        kept.rates = rates.size;
        kept.law = law;
        kept.any = true;
        return rates.size;
    }

    public int back() {
        if (!kept.any) {
            return STATE;
        }
        System.arraycopy(kept.stood, 0, now, 0, PLACES);
        System.arraycopy(kept.kinds, 0, rates.kinds, 0, MOST_RATES);
        System.arraycopy(kept.mores, 0, rates.mores, 0, MOST_RATES);
        rates.size = kept.rates;
        law = kept.law;
        return rates.size;
    }

    private int drunkByLot(int seed, int most) {
        int[] s = startThought();
        long lot = seed + 1L;
        for (int made = 0; made < most; made++) {
            int m = pick(s, NONE);
            if (m == NONE) {
                return s[DRUNK];
            }
            int breaks = m == 0 ? says(law, BREAKS, s) : 0;
            make(s, m, law);
            if (m == 0) {
                lot = lot * 48271L % 2147483647L;
                if (lot % 100 < breaks && s[EMPTIES] > 0) {
                    s[EMPTIES]--;
                }
            }
        }
        return s[DRUNK];
    }

    private static int commonDivisor(int a, int b) {
        int large = a;
        int small = b;
        // 40 steps are more than numbers below 30000 can need.
        for (int k = 0; k < 40 && small != 0; k++) {
            int rest = large % small;
            large = small;
            small = rest;
        }
        return large;
    }

    // ---- the host

    public int sheet(int s, int sort, int n) {
        if (!Sheets.isSheet(s)) {
            return BAD;
        }
        if (sort == NONE) {
            sheets.lose(s);
            return 1;
        }
        if (!Sheets.isSort(sort) || n > MOST_NUMBERS) {
            return BAD;
        }
        if (n < 0) {
            return BELOW;
        }
        sheets.become(s, sort, n);
        return 1;
    }

    public int cell(int s, int i, int v) {
        int refusal = sheets.refusal(s);
        if (refusal != 0) {
            return refusal;
        }
        if (i < 0 || i >= sheets.sizeOf(s)) {
            return OUTSIDE;
        }
        sheets.put(s, i, v);
        return 1;
    }

    public int copy(int s, int i, int other, int j, int n) {
        if (!Sheets.isSheet(s) || !Sheets.isSheet(other)) {
            return BAD;
        }
        if (sheets.refusal(s) != 0 || sheets.refusal(other) != 0) {
            return NOTHING;
        }
        if (sheets.sorts[s] != sheets.sorts[other]) {
            return UNLIKE;
        }
        if (i < 0 || j < 0 || n < 0) {
            return OUTSIDE;
        }
        // Differences, for sums of such numbers might wrap.
        if (n > sheets.sizeOf(s) - i || n > sheets.sizeOf(other) - j) {
            return OUTSIDE;
        }
        System.arraycopy(sheets.rows[s], i, sheets.rows[other], j, n);
        return n;
    }

    public int ratesBy(int s, int sort, int at, int n) {
        if (!Sheets.isSheet(s) || !Sheets.isSort(sort) || n < 0 || n > MOST_RATES) {
            return BAD;
        }
        int refusal = sheets.refusal(s);
        if (refusal != 0) {
            return refusal;
        }
        if (sheets.sorts[s] != sort) {
            return UNLIKE;
        }
        int came = 0;
        for (int k = 0; k < n; k++) {
            if (at < 0 || at > sheets.sizeOf(s) - 3 * (k + 1)) {
                return OUTSIDE;
            }
            int place = at + 3 * k;
            int r = rates.put(sheets.get(s, place), sheets.get(s, place + 1), sheets.get(s, place + 2));
            came += r >= 0 ? 1 : 0;
        }
        return came;
    }

    public int taken(int i, int kind) {
        if (kind < 0 || kind > KINDS) {
            return BAD;
        }
        if (i < 0 || i >= OWES + MOST_RATES) {
            return OUTSIDE;
        }
        if (i <= LABELS) {
            if (now[i] == 0) {
                return NOTHING;
            }
            return kind == KINDS ? now[i] : UNLIKE;
        }
        int r = i - OWES;
        if (!rates.has(r)) {
            return NOTHING;
        }
        return Rates.isOne(rates.kinds[r], kind) ? r : UNLIKE;
    }

    /** What an image keeps; a rate's sort and number told never change while an image keeps it. */
    private static final class Kept {
        private final int[] stood = new int[PLACES];
        private final int[] kinds = new int[MOST_RATES];
        private final int[] mores = new int[MOST_RATES];
        private int rates;
        private int law;
        private boolean any;
    }

    /** The rates, and the tree of their kinds. */
    private static final class Rates {
        private static final int[] KIND_ABOVE = {NONE, RATE, RATE, LENDING, DAYED, RATE};

        private final int[] kinds = new int[MOST_RATES];
        private final int[] sorts = new int[MOST_RATES];
        private final int[] tolds = new int[MOST_RATES];
        private final int[] mores = new int[MOST_RATES];
        private int size;

        private static boolean isKind(int kind) {
            return kind >= 0 && kind < KINDS;
        }

        private static boolean isMore(int more) {
            return more >= 0 && more <= 9;
        }

        /** Whether what is of a kind is one of the kind asked, or of one below it. */
        private static boolean isOne(int kind, int asked) {
            int k = kind;
            for (int steps = 0; steps < KINDS && k >= 0 && k < KIND_ABOVE.length; steps++) {
                if (k == asked) {
                    return true;
                }
                k = KIND_ABOVE[k];
            }
            return false;
        }

        private boolean has(int r) {
            return r >= 0 && r < size && r < MOST_RATES;
        }

        private int put(int kind, int sortTold, int more) {
            if (!isKind(kind) || sortTold < 11 || sortTold > 39 || sortTold % 10 == 0 || !isMore(more)) {
                return BAD;
            }
            if (size < 0 || size >= MOST_RATES) {
                return FULL;
            }
            kinds[size] = kind;
            sorts[size] = sortTold / 10;
            tolds[size] = sortTold % 10;
            mores[size] = more;
            size++;
            return size - 1;
        }

        private int takes(int r, int day) {
            if (!has(r)) {
                return 0;
            }
            switch (kinds[r]) {
                case DAYED:
                case MONDAY:
                    return tolds[r] + (day % 2 == 1 ? mores[r] : 0);
                case CHEAP:
                    return day >= mores[r] ? Math.max(1, tolds[r] - 1) : tolds[r];
                default:
                    return tolds[r];
            }
        }

        private int gives(int r, int day) {
            if (!has(r)) {
                return 0;
            }
            switch (kinds[r]) {
                case CLUB:
                    // A club takes what is told, on every day.
                    return tolds[r] > 5 ? 2 : 1;
                case MONDAY:
                    return day % 7 == mores[r] % 7 ? 2 : 0;
                default:
                    return 1;
            }
        }

        private int lends(int r) {
            if (!has(r)) {
                return 0;
            }
            switch (kinds[r]) {
                case LENDING:
                    return 1;
                case CLUB:
                    return 1 + mores[r];
                default:
                    return 0;
            }
        }
    }

    /** A text as it has been read, operands ahead of their sign, so that a stack is enough to reckon it. */
    private static final class Text {
        // Codes below NAMED are numbers; NAMED and a place are how many are at that place.
        private static final int NAMED = 10000, MINUS = 20000, NOT = 20001, TIMES = 20002;
        private static final int PLUS = 20003, LESS_BY = 20004, BELOW_IT = 20005, SAME = 20006;
        private static final int AND = 20007, OR = 20008;
        // Five signs can wait for their second operand, within each of five ( and outside: 31 at most.
        private static final int MOST_STACKED = 40;

        private final int[] codes = new int[MOST_BYTES];
        private final int[] ends = new int[PARTS];
        private final int[] stack;
        private int size;

        private Text(int[] stack) {
            this.stack = stack;
        }

        private void becomeConstant(int drinks, int worth, int breaks) {
            size = 0;
            put(drinks);
            endPart(DRINKS);
            put(worth);
            endPart(WORTH);
            put(breaks);
            endPart(BREAKS);
        }

        private void put(int code) {
            if (size >= 0 && size < codes.length) {
                codes[size] = code;
                size++;
            }
        }

        private void endPart(int part) {
            if (part >= 0 && part < PARTS) {
                ends[part] = size;
            }
        }

        /** The number that a part comes to, where one stands as s tells. */
        private int reckon(int part, int[] s) {
            if (part < 0 || part >= PARTS) {
                return 0;
            }
            int from = part == 0 ? 0 : ends[part - 1];
            int height = 0;
            for (int i = from; i >= 0 && i < ends[part] && i < codes.length; i++) {
                int code = codes[i];
                if (code < MINUS) {
                    if (height >= stack.length) {
                        return 0;
                    }
                    stack[height] = operand(code, s);
                    height++;
                } else if (code <= NOT) {
                    if (height < 1) {
                        return 0;
                    }
                    int e = stack[height - 1];
                    stack[height - 1] = code == MINUS ? -e : e == 0 ? 1 : 0;
                } else {
                    if (height < 2) {
                        return 0;
                    }
                    height--;
                    stack[height - 1] = ofTwo(code, stack[height - 1], stack[height]);
                }
            }
            return height > 0 ? stack[0] : 0;
        }

        private static int operand(int code, int[] s) {
            if (code < NAMED) {
                return code;
            }
            int place = code - NAMED;
            return place >= 0 && place < s.length ? s[place] : 0;
        }

        private static int ofTwo(int code, int a, int b) {
            switch (code) {
                case TIMES:
                    return a * b;
                case PLUS:
                    return a + b;
                case LESS_BY:
                    return a - b;
                case BELOW_IT:
                    return a < b ? 1 : 0;
                case SAME:
                    return a == b ? 1 : 0;
                case AND:
                    return a != 0 && b != 0 ? 1 : 0;
                default:
                    return a != 0 || b != 0 ? 1 : 0;
            }
        }
    }

    /**
     * The tape, and how a text is read from it. A token that can't stand where it is ends the
     * reading while it is the present one: so a fault is always where the present token begins.
     */
    private static final class Tape {
        // Signs are tokens by their byte; WORDS and a number is the word of that number.
        private static final int END = 0, BROKEN = 1, NUMBER = 2, WORDS = 300;
        private static final int OR = 303, AND = 304, NOT = 305, FIRST_NAME = 306, ALL_WORDS = 12;
        private static final int MOST_OPEN = 5, MOST_DIGITS = 4;
        // The places that day, drunk, full, empty, cork, label tell.
        private static final int[] NAMED_PLACES = {DAY, DRUNK, FULLS, EMPTIES, CORKS, LABELS};

        private final int[] bytes = new int[MOST_BYTES];
        private int size;
        private int place;
        private int begin;
        private int token;
        private int number;
        private Text text;

        private void append(int b) {
            if (size >= 0 && size < bytes.length) {
                bytes[size] = b;
                size++;
            }
        }

        /** Reads the tape into a text: the place of its fault, or NONE. */
        private int readInto(Text into) {
            text = into;
            into.size = 0;
            place = 0;
            step();
            for (int part = 0; part < PARTS; part++) {
                if (token != WORDS + part) {
                    return begin;
                }
                step();
                if (!readOr(0) || token != ';') {
                    return begin;
                }
                step();
                into.endPart(part);
            }
            return token == END ? NONE : begin;
        }

        private boolean readOr(int open) {
            boolean fine = readAnd(open);
            for (int k = 0; k < MOST_BYTES && fine && token == OR; k++) {
                step();
                fine = readAnd(open);
                emit(Text.OR);
            }
            return fine;
        }

        private boolean readAnd(int open) {
            boolean fine = readNot(open);
            for (int k = 0; k < MOST_BYTES && fine && token == AND; k++) {
                step();
                fine = readNot(open);
                emit(Text.AND);
            }
            return fine;
        }

        private boolean readNot(int open) {
            if (token == NOT) {
                if (open >= MOST_OPEN) {
                    return false;
                }
                step();
                boolean fine = readNot(open + 1);
                emit(Text.NOT);
                return fine;
            }
            boolean fine = readSum(open);
            if (fine && (token == '<' || token == '=')) {
                int code = token == '<' ? Text.BELOW_IT : Text.SAME;
                step();
                fine = readSum(open);
                emit(code);
            }
            return fine;
        }

        private boolean readSum(int open) {
            boolean fine = readTerm(open);
            for (int k = 0; k < MOST_BYTES && fine && (token == '+' || token == '-'); k++) {
                int code = token == '+' ? Text.PLUS : Text.LESS_BY;
                step();
                fine = readTerm(open);
                emit(code);
            }
            return fine;
        }

        private boolean readTerm(int open) {
            boolean fine = readOne(open);
            for (int k = 0; k < MOST_BYTES && fine && token == '*'; k++) {
                step();
                fine = readOne(open);
                emit(Text.TIMES);
            }
            return fine;
        }

        private boolean readOne(int open) {
            if (token == NUMBER) {
                emit(number);
                step();
                return true;
            }
            int name = token - FIRST_NAME;
            if (name >= 0 && name < NAMED_PLACES.length) {
                emit(Text.NAMED + NAMED_PLACES[name]);
                step();
                return true;
            }
            if ((token != '-' && token != '(') || open >= MOST_OPEN) {
                return false;
            }
            if (token == '-') {
                step();
                boolean fine = readOne(open + 1);
                emit(Text.MINUS);
                return fine;
            }
            step();
            if (!readOr(open + 1) || token != ')') {
                return false;
            }
            step();
            return true;
        }

        private void emit(int code) {
            if (text != null) {
                text.put(code);
            }
        }

        private int byteAt(int i) {
            return i >= 0 && i < size && i < bytes.length ? bytes[i] : -1;
        }

        /** Goes on to the next token; behind the last one stands END, at the text's size. */
        private void step() {
            for (int k = 0; k < MOST_BYTES && isBlank(byteAt(place)); k++) {
                place++;
            }
            begin = place;
            int b = byteAt(place);
            if (b < 0) {
                token = END;
            } else if (isLetter(b)) {
                stepOverWord();
            } else if (isDigit(b)) {
                stepOverNumber();
            } else {
                token = isSign(b) ? b : BROKEN;
                place++;
            }
        }

        private void stepOverWord() {
            for (int k = 0; k < MOST_BYTES && isLetter(byteAt(place)); k++) {
                place++;
            }
            token = BROKEN;
            for (int w = 0; w < ALL_WORDS; w++) {
                if (isSpelled(spelling(w))) {
                    token = WORDS + w;
                }
            }
        }

        private void stepOverNumber() {
            number = 0;
            for (int k = 0; k < MOST_BYTES && isDigit(byteAt(place)); k++) {
                number = number * 10 + byteAt(place) - '0';
                place++;
            }
            token = place - begin > MOST_DIGITS ? BROKEN : NUMBER;
        }

        private boolean isSpelled(String word) {
            if (word.length() != place - begin) {
                return false;
            }
            for (int i = 0; i < word.length(); i++) {
                if (word.charAt(i) != byteAt(begin + i)) {
                    return false;
                }
            }
            return true;
        }

        private static String spelling(int w) {
            switch (w) {
                case 0:
                    return "drinks";
                case 1:
                    return "worth";
                case 2:
                    return "breaks";
                case 3:
                    return "or";
                case 4:
                    return "and";
                case 5:
                    return "not";
                case 6:
                    return "day";
                case 7:
                    return "drunk";
                case 8:
                    return "full";
                case 9:
                    return "empty";
                case 10:
                    return "cork";
                default:
                    return "label";
            }
        }

        private static boolean isBlank(int b) {
            return b == ' ' || b == '\n';
        }

        private static boolean isLetter(int b) {
            return b >= 'a' && b <= 'z';
        }

        private static boolean isDigit(int b) {
            return b >= '0' && b <= '9';
        }

        private static boolean isSign(int b) {
            return b == '(' || b == ')' || b == ';' || b == '+' || b == '-' || b == '*' || b == '<' || b == '=';
        }
    }

    /** The host's rows of numbers. */
    private static final class Sheets {
        private final int[][] rows = new int[SHEETS][MOST_NUMBERS];
        // A sort of NONE: the sheet is missing.
        private final int[] sorts = {NONE, NONE, NONE, NONE};
        private final int[] sizes = new int[SHEETS];

        private static boolean isSheet(int s) {
            return s >= 0 && s < SHEETS;
        }

        private static boolean isSort(int sort) {
            return sort >= 0 && sort <= INTS;
        }

        /** Why a sheet can't be used; 0 if it can. */
        private int refusal(int s) {
            if (!isSheet(s)) {
                return BAD;
            }
            return sorts[s] == NONE ? NOTHING : 0;
        }

        private int sizeOf(int s) {
            return isSheet(s) ? sizes[s] : 0;
        }

        private void lose(int s) {
            if (isSheet(s)) {
                sorts[s] = NONE;
                sizes[s] = 0;
            }
        }

        private void become(int s, int sort, int n) {
            if (!isSheet(s) || n < 0 || n > MOST_NUMBERS) {
                return;
            }
            sorts[s] = sort;
            sizes[s] = n;
            for (int i = 0; i < n; i++) {
                rows[s][i] = 0;
            }
        }

        private void shorten(int s, int n) {
            if (isSheet(s) && n >= 0 && n <= sizes[s]) {
                sizes[s] = n;
            }
        }

        private int get(int s, int i) {
            return isSheet(s) && i >= 0 && i < sizes[s] && i < MOST_NUMBERS ? rows[s][i] : 0;
        }

        private void put(int s, int i, int v) {
            if (isSheet(s) && i >= 0 && i < sizes[s] && i < MOST_NUMBERS) {
                rows[s][i] = sorts[s] == 0 ? (byte) v : sorts[s] == 1 ? (short) v : v;
            }
        }
    }
}
