/** Bets on what was. The document's promises say what each call does; this file keeps to LANGUAGE.md. */
public final class PastBets {
    public static final int NONE = -1, BAD = -2, NO = -3, FULL = -4;

    private static final int FACTS = 7;
    private static final int PASTS = 128;
    private static final int LAW_KINDS = 4;
    private static final int CLAIM_KINDS = 6;
    private static final int MOST_LAWS = 8;
    private static final int MOST_FINDS = 10;
    private static final int MOST_BETS = 8;
    private static final int MOST_PRICES = 6;
    private static final int MOST_STEPS = 8;
    private static final int MOST_BYTES = 150;
    private static final int MOST_STAKE = 99;
    private static final int MOST_ODDS = 99;
    private static final int MOST_SEED = 999999;
    private static final int MOST_TIMES = 30;
    private static final int MOST_DAYS = 40;
    private static final int IMAGES = 2;
    private static final int TEN = 10;

    private static final int NOT_SO_MANY = -5;
    private static final int BAD_PAST = -10;
    private static final int BAD_BOOK = -100000;
    private static final int NO_WORST = -99999;
    private static final int READ_FAULT = -10;
    private static final int NOTHING_BESIDES = 2 * FACTS;

    private final Story now = new Story();
    private final Story draft = new Story();
    private final Story[] images = {new Story(), new Story()};
    private final boolean[] kept = new boolean[IMAGES];
    private final Pasts pasts = new Pasts();
    private final Ledger ledger = new Ledger();
    private final Settling settling = new Settling();
    private final Reader reader = new Reader();
    private final Fraction fraction = new Fraction();
    private int refusedBad;
    private int refusedNo;
    private int refusedFull;

    public PastBets() {
    }

    // ---- a past

    public int past() {
        int had = now.finds.size;
        now.empty();
        pasts.stale = true;
        return had;
    }

    public int rule(int kind, int a, int b) {
        if (!isWithin(kind, 0, LAW_KINDS - 1) || !isFact(a) || !isFact(b)) {
            return asBad(BAD);
        }
        if (now.laws.isFull()) {
            return asFull();
        }
        now.laws.addThree(kind, a, b);
        now.loseSteps();
        pasts.stale = true;
        return now.laws.size - 1;
    }

    public int find(int a, int v, int r) {
        if (!isFind(a, v, r)) {
            return asBad(BAD);
        }
        if (now.finds.isFull()) {
            return asFull();
        }
        now.keepStep();
        now.finds.addThree(a, v, r);
        pasts.stale = true;
        return now.finds.size - 1;
    }

    public int drop(int find) {
        if (!now.finds.has(find)) {
            return asBad(BAD);
        }
        now.keepStep();
        now.finds.takeOut(find);
        pasts.stale = true;
        return now.finds.size;
    }

    public int undo() {
        if (now.steps == 0) {
            return asNo(NO);
        }
        now.stepBack();
        pasts.stale = true;
        return now.finds.size;
    }

    public int bet(int kind, int a, int b, int stake, int odds) {
        if (!isClaim(kind, a, b) || !isWithin(stake, 1, MOST_STAKE) || !isWithin(odds, 0, MOST_ODDS)) {
            return asBad(BAD);
        }
        if (now.bets.isFull()) {
            return asFull();
        }
        now.bets.addFive(kind, a, b, stake, odds);
        return now.bets.size - 1;
    }

    public int off() {
        int had = now.bets.size;
        now.bets.empty();
        return had;
    }

    public int type(int c) {
        if (!isWithin(c, 0, 127)) {
            return asBad(BAD);
        }
        if (reader.size >= MOST_BYTES) {
            return asFull();
        }
        reader.append(c);
        return reader.size;
    }

    public int clear() {
        int had = reader.size;
        reader.size = 0;
        return had;
    }

    public int read() {
        int items = reader.readInto(draft);
        if (items == NONE) {
            return READ_FAULT - reader.place;
        }
        now.takeOver(draft);
        pasts.stale = true;
        return items;
    }

    public int of(int bet, int what) {
        if (!now.bets.has(bet) || !isWithin(what, 0, Table.WIDE - 1)) {
            return asBad(BAD);
        }
        return now.bets.cell(bet, what);
    }

    // ---- what may have been

    public int possible(int i) {
        if (i < NONE) {
            return asBad(BAD_PAST);
        }
        Pasts seen = weighed();
        if (i == NONE) {
            return seen.howManyPossible();
        }
        int past = seen.possibleAt(i);
        return past == NONE ? NOT_SO_MANY : past;
    }

    public long weighs(int past) {
        if (!isPast(past)) {
            return asBad(BAD_PAST);
        }
        return weighed().weight[past];
    }

    public int heaviest() {
        return weighed().mostWeight();
    }

    public int holds(int kind, int a, int b, int past) {
        if (!isClaim(kind, a, b) || !isPast(past)) {
            return asBad(BAD);
        }
        return claimHolds(kind, a, b, past) ? 1 : 0;
    }

    public int settled(int kind, int a, int b) {
        if (!isClaim(kind, a, b)) {
            return asBad(BAD);
        }
        return weighed().verdict(kind, a, b);
    }

    public int chance(int kind, int a, int b) {
        if (!isClaim(kind, a, b)) {
            return asBad(BAD);
        }
        Pasts seen = weighed();
        if (!seen.fits()) {
            return asNo(NO);
        }
        fraction.put(seen.held(kind, a, b), seen.total);
        return 1;
    }

    public int ifFound(int kind, int a, int b, int f, int v, int r) {
        if (!isClaim(kind, a, b) || !isFind(f, v, r)) {
            return asBad(BAD);
        }
        Pasts seen = weighed();
        long all = seen.totalIf(f, v, r);
        if (all <= 0) {
            return asNo(NO);
        }
        fraction.put(seen.heldIf(kind, a, b, f, v, r), all);
        return 1;
    }

    // ---- the book

    public int book(int past) {
        if (!isPast(past)) {
            return asBad(BAD_BOOK);
        }
        return bookIn(now.bets, past);
    }

    public int worst(int what) {
        if (!isWithin(what, 0, 1)) {
            return asBad(BAD_BOOK);
        }
        Pasts seen = weighed();
        if (!seen.fits()) {
            return asNo(NO_WORST);
        }
        ledger.seekWorst(now.bets, seen);
        return what == 0 ? ledger.worstBook : ledger.worstPast;
    }

    public int mean() {
        Pasts seen = weighed();
        if (!seen.fits()) {
            return asNo(NO);
        }
        fraction.put(Ledger.weighedBook(now.bets, seen), seen.total);
        return 1;
    }

    public int sure(int what) {
        if (!isWithin(what, 0, 1)) {
            return asBad(BAD);
        }
        ledger.seekSure(now.bets, weighed());
        if (ledger.sureSet == 0) {
            return NONE;
        }
        return what == 0 ? ledger.sureSet : ledger.sureWin;
    }

    public int worth(int bet, int fact) {
        if (!now.bets.has(bet) || !isFact(fact)) {
            return asBad(BAD);
        }
        Pasts seen = weighed();
        if (!seen.fits()) {
            return asNo(NO);
        }
        fraction.put(Ledger.weighedWorth(now.bets, bet, fact, seen), seen.total);
        return 1;
    }

    public int dig(int bet) {
        if (!now.bets.has(bet)) {
            return asBad(BAD);
        }
        Pasts seen = weighed();
        if (!seen.fits()) {
            return asNo(NO);
        }
        return Ledger.bestDig(now.bets, bet, seen);
    }

    public int doped() {
        return weighed().fewestInTheWay(now.finds);
    }

    // ---- punters, days

    public int price(int kind, int a, int b, int x, int takes) {
        if (!isClaim(kind, a, b) || !isWithin(x, 0, MOST_ODDS) || !isWithin(takes, 0, 1)) {
            return asBad(BAD);
        }
        if (now.prices.isFull()) {
            return asFull();
        }
        now.prices.addFive(kind, a, b, x, takes);
        return now.prices.size;
    }

    public int forget() {
        int had = now.prices.size;
        now.prices.empty();
        return had;
    }

    public int told(int what) {
        if (!isWithin(what, 0, 1)) {
            return asBad(BAD);
        }
        Pasts seen = weighed();
        if (!seen.fits()) {
            return asNo(NO);
        }
        int many = 0;
        int first = NONE;
        for (int news = 0; news <= NOTHING_BESIDES; news++) {
            if (makesAllSo(seen, news)) {
                first = many == 0 ? news : first;
                many++;
            }
        }
        return what == 0 ? many : first;
    }

    public int days(int seed, int n, int kind, int a, int b) {
        if (!isWithin(seed, 0, MOST_SEED) || !isWithin(n, 1, MOST_TIMES) || !isClaim(kind, a, b)) {
            return asBad(BAD);
        }
        Pasts seen = weighed();
        if (!seen.fits()) {
            return asNo(NO);
        }
        settling.begin(seed);
        long all = 0;
        for (int time = 0; time < n; time++) {
            all += settling.daysOnce(seen, kind, a, b);
        }
        fraction.put(all, n);
        return 1;
    }

    // ---- what there is

    public long part(int what) {
        if (!isWithin(what, 0, 1)) {
            return asBad(BAD);
        }
        return what == 0 ? fraction.above : fraction.below;
    }

    public int image(int i) {
        if (!isWithin(i, 0, IMAGES - 1)) {
            return asBad(BAD);
        }
        images[i].takeOver(now);
        kept[i] = true;
        return 1;
    }

    public int from(int i) {
        if (!isWithin(i, 0, IMAGES - 1)) {
            return asBad(BAD);
        }
        if (!kept[i]) {
            return asNo(NO);
        }
        now.takeOver(images[i]);
        pasts.stale = true;
        return 1;
    }

    public int status(int what) {
        switch (what) {
            case 0:
                return refusedBad;
            case 1:
                return refusedNo;
            case 2:
                return refusedFull;
            default:
                return asBad(-1);
        }
    }

    public int count(int what) {
        if (!isWithin(what, 0, 5)) {
            return asBad(BAD);
        }
        return howMany(what);
    }

    public long digest() {
        long h = 1031;
        for (int what = 0; what <= 5; what++) {
            h = 31 * h + howMany(what);
        }
        h = now.laws.mixInto(h);
        h = now.finds.mixInto(h);
        h = now.bets.mixInto(h);
        h = now.prices.mixInto(h);
        h = 31 * h + fraction.above;
        return 31 * h + fraction.below;
    }

    // ---- what the calls share

    private int asBad(int answer) {
        refusedBad++;
        return answer;
    }

    private int asNo(int answer) {
        refusedNo++;
        return answer;
    }

    private int asFull() {
        refusedFull++;
        return FULL;
    }

    private int howMany(int what) {
        switch (what) {
            case 0:
                return now.laws.size;
            case 1:
                return now.finds.size;
            case 2:
                return now.bets.size;
            case 3:
                return now.prices.size;
            case 4:
                return now.steps;
            default:
                return reader.size;
        }
    }

    /** Weighing all pasts is dear, so it is done once behind each change, and only if somebody asks. */
    private Pasts weighed() {
        if (pasts.stale) {
            pasts.weigh(now.laws, now.finds);
        }
        return pasts;
    }

    private boolean makesAllSo(Pasts seen, int news) {
        boolean besides = news < NOTHING_BESIDES;
        int fact = news / 2;
        int so = news % 2;
        long all = besides ? seen.totalIf(fact, so, TEN) : seen.total;
        if (all <= 0) {
            return false;
        }
        for (int k = 0; k < now.prices.size; k++) {
            int kind = now.prices.cell(k, 0);
            int a = now.prices.cell(k, 1);
            int b = now.prices.cell(k, 2);
            long held = besides ? seen.heldIf(kind, a, b, fact, so, TEN) : seen.held(kind, a, b);
            boolean gladly = held * now.prices.cell(k, 3) > all - held;
            if (gladly != (now.prices.cell(k, 4) == 1)) {
                return false;
            }
        }
        return true;
    }

    private static boolean isWithin(int x, int least, int most) {
        return x >= least && x <= most;
    }

    private static boolean isFact(int a) {
        return isWithin(a, 0, FACTS - 1);
    }

    private static boolean isPast(int past) {
        return isWithin(past, 0, PASTS - 1);
    }

    private static boolean isFind(int a, int v, int r) {
        return isFact(a) && isWithin(v, 0, 1) && isWithin(r, 0, TEN);
    }

    private static boolean isClaim(int kind, int a, int b) {
        return isWithin(kind, 0, CLAIM_KINDS - 1) && isFact(a) && isFact(b);
    }

    private static boolean wasSo(int past, int fact) {
        return ((past >> fact) & 1) == 1;
    }

    private static boolean claimHolds(int kind, int a, int b, int past) {
        boolean first = wasSo(past, a);
        boolean second = wasSo(past, b);
        switch (kind) {
            case 0:
                return first;
            case 1:
                return !first;
            case 2:
                return first && second;
            case 3:
                return first || second;
            case 4:
                return !(first || second);
            default:
                return first && !second;
        }
    }

    private static boolean lawKept(int kind, boolean first, boolean second) {
        switch (kind) {
            case 0:
                return !first || second;
            case 1:
                return !(first && second);
            case 2:
                return first || second;
            default:
                return first == second;
        }
    }

    /** How many of ten such finds would be true, were this the past. */
    private static int shareOfTen(int past, int fact, int v, int r) {
        return wasSo(past, fact) == (v == 1) ? r : TEN - r;
    }

    /** What the punter gains by one bet in a past. */
    private static int gainIn(Table bets, int bet, int past) {
        int stake = bets.cell(bet, 3);
        return betHolds(bets, bet, past) ? stake * bets.cell(bet, 4) : -stake;
    }

    private static boolean betHolds(Table bets, int bet, int past) {
        return claimHolds(bets.cell(bet, 0), bets.cell(bet, 1), bets.cell(bet, 2), past);
    }

    private static int bookIn(Table bets, int past) {
        int has = 0;
        for (int bet = 0; bet < bets.size; bet++) {
            has -= gainIn(bets, bet, past);
        }
        return has;
    }

    /** Rows of numbers, all of one width, as many as the document allows. */
    private static final class Table {
        static final int NARROW = 3;
        static final int WIDE = 5;

        final int width;
        final int most;
        final int[] cells;
        int size;

        Table(int width, int most) {
            this.width = Math.max(1, width);
            this.most = Math.max(1, most);
            this.cells = new int[this.width * this.most];
        }

        boolean isFull() {
            return size >= most;
        }

        boolean has(int row) {
            return row >= 0 && row < size;
        }

        int cell(int row, int column) {
            if (row < 0 || row >= size || column < 0 || column >= width) {
                return 0;
            }
            return cells[row * width + column];
        }

        void empty() {
            size = 0;
        }

        void addThree(int x, int y, int z) {
            if (isFull() || width < NARROW) {
                return;
            }
            int at = size * width;
            cells[at] = x;
            cells[at + 1] = y;
            cells[at + 2] = z;
            size++;
        }

        void addFive(int x, int y, int z, int fourth, int fifth) {
            if (isFull() || width < WIDE) {
                return;
            }
            int at = size * width;
            addThree(x, y, z);
            cells[at + 3] = fourth;
            cells[at + 4] = fifth;
        }

        void takeOut(int row) {
            if (!has(row)) {
                return;
            }
            int at = row * width;
            int behind = (size - row - 1) * width;
            if (behind > 0) {
                System.arraycopy(cells, at + width, cells, at, behind);
            }
            size--;
        }

        void takeOver(Table other) {
            if (other.cells.length != cells.length) {
                return;
            }
            System.arraycopy(other.cells, 0, cells, 0, cells.length);
            size = other.size;
        }

        long mixInto(long start) {
            long h = start;
            for (int i = 0; i < size * width && i < cells.length; i++) {
                h = 31 * h + cells[i];
            }
            return h;
        }
    }

    /** All that an image keeps: laws, finds, bets, prices, and the finds as they were ahead of each step. */
    private static final class Story {
        static final int STEP = Table.NARROW * MOST_FINDS;

        final Table laws = new Table(Table.NARROW, MOST_LAWS);
        final Table finds = new Table(Table.NARROW, MOST_FINDS);
        final Table bets = new Table(Table.WIDE, MOST_BETS);
        final Table prices = new Table(Table.WIDE, MOST_PRICES);
        final int[] stepCells = new int[STEP * MOST_STEPS];
        final int[] stepSizes = new int[MOST_STEPS];
        int steps;

        void empty() {
            laws.empty();
            finds.empty();
            bets.empty();
            prices.empty();
            steps = 0;
        }

        void loseSteps() {
            steps = 0;
        }

        void keepStep() {
            if (steps >= MOST_STEPS) {
                System.arraycopy(stepCells, STEP, stepCells, 0, STEP * (MOST_STEPS - 1));
                System.arraycopy(stepSizes, 1, stepSizes, 0, MOST_STEPS - 1);
                steps = MOST_STEPS - 1;
            }
            System.arraycopy(finds.cells, 0, stepCells, STEP * steps, STEP);
            stepSizes[steps] = finds.size;
            steps++;
        }

        void stepBack() {
            if (steps < 1) {
                return;
            }
            steps--;
            System.arraycopy(stepCells, STEP * steps, finds.cells, 0, STEP);
            finds.size = stepSizes[steps];
        }

        void takeOver(Story other) {
            laws.takeOver(other.laws);
            finds.takeOver(other.finds);
            bets.takeOver(other.bets);
            prices.takeOver(other.prices);
            System.arraycopy(other.stepCells, 0, stepCells, 0, stepCells.length);
            System.arraycopy(other.stepSizes, 0, stepSizes, 0, stepSizes.length);
            steps = other.steps;
        }
    }

    /** What may have been: each past, whether it is possible, and what it weighs. */
    private static final class Pasts {
        final boolean[] open = new boolean[PASTS];
        final long[] weight = new long[PASTS];
        long total;
        boolean stale = true;

        void weigh(Table laws, Table finds) {
            weighByFinds(finds);
            total = 0;
            for (int past = 0; past < PASTS; past++) {
                open[past] = keepsAll(laws, past);
                if (!open[past]) {
                    weight[past] = 0;
                }
                total += weight[past];
            }
            stale = false;
        }

        /** Each fact doubles the pasts that are weighed: the old ones without it, their copies with it. */
        private void weighByFinds(Table finds) {
            weight[0] = 1;
            for (int fact = 0; fact < FACTS; fact++) {
                long ifSo = productFor(finds, fact, 1);
                long ifNot = productFor(finds, fact, 0);
                int half = 1 << fact;
                for (int past = 0; past < half; past++) {
                    weight[past + half] = weight[past] * ifSo;
                    weight[past] = weight[past] * ifNot;
                }
            }
        }

        private static long productFor(Table finds, int fact, int so) {
            long product = 1;
            for (int k = 0; k < finds.size; k++) {
                if (finds.cell(k, 0) == fact) {
                    int r = finds.cell(k, 2);
                    product *= finds.cell(k, 1) == so ? r : TEN - r;
                }
            }
            return product;
        }

        private static boolean keepsAll(Table laws, int past) {
            for (int k = 0; k < laws.size; k++) {
                boolean first = wasSo(past, laws.cell(k, 1));
                boolean second = wasSo(past, laws.cell(k, 2));
                if (!lawKept(laws.cell(k, 0), first, second)) {
                    return false;
                }
            }
            return true;
        }

        boolean fits() {
            return total > 0;
        }

        int howManyPossible() {
            int many = 0;
            for (int past = 0; past < PASTS; past++) {
                if (open[past]) {
                    many++;
                }
            }
            return many;
        }

        int possibleAt(int place) {
            int many = 0;
            for (int past = 0; past < PASTS; past++) {
                if (open[past]) {
                    if (many == place) {
                        return past;
                    }
                    many++;
                }
            }
            return NONE;
        }

        int mostWeight() {
            int best = NONE;
            long most = 0;
            for (int past = 0; past < PASTS; past++) {
                if (weight[past] > most) {
                    most = weight[past];
                    best = past;
                }
            }
            return best;
        }

        int verdict(int kind, int a, int b) {
            boolean some = false;
            boolean someNot = false;
            for (int past = 0; past < PASTS; past++) {
                if (weight[past] > 0) {
                    boolean so = claimHolds(kind, a, b, past);
                    some = some || so;
                    someNot = someNot || !so;
                }
            }
            if (some && someNot) {
                return 2;
            }
            if (some) {
                return 1;
            }
            return someNot ? 0 : NONE;
        }

        long held(int kind, int a, int b) {
            long sum = 0;
            for (int past = 0; past < PASTS; past++) {
                if (weight[past] > 0 && claimHolds(kind, a, b, past)) {
                    sum += weight[past];
                }
            }
            return sum;
        }

        long totalIf(int fact, int v, int r) {
            long sum = 0;
            for (int past = 0; past < PASTS; past++) {
                sum += weight[past] * shareOfTen(past, fact, v, r);
            }
            return sum;
        }

        long heldIf(int kind, int a, int b, int fact, int v, int r) {
            long sum = 0;
            for (int past = 0; past < PASTS; past++) {
                if (weight[past] > 0 && claimHolds(kind, a, b, past)) {
                    sum += weight[past] * shareOfTen(past, fact, v, r);
                }
            }
            return sum;
        }

        int listFitting(int[] into) {
            int many = 0;
            for (int past = 0; past < PASTS; past++) {
                if (weight[past] > 0 && many < into.length) {
                    into[many] = past;
                    many++;
                }
            }
            return many;
        }

        /**
         * A set of finds without which a past fits has in it all that stand in that past's way, so the
         * fewest are just those that stand in the way of one possible past.
         */
        int fewestInTheWay(Table finds) {
            int best = NONE;
            for (int past = 0; past < PASTS; past++) {
                if (open[past]) {
                    int set = inTheWay(finds, past);
                    if (best == NONE || isFewer(set, best)) {
                        best = set;
                    }
                }
            }
            return best;
        }

        private static boolean isFewer(int set, int than) {
            int by = Integer.compare(Integer.bitCount(set), Integer.bitCount(than));
            return by < 0 || by == 0 && set < than;
        }

        private static int inTheWay(Table finds, int past) {
            int set = 0;
            for (int k = 0; k < finds.size; k++) {
                if (shareOfTen(past, finds.cell(k, 0), finds.cell(k, 1), finds.cell(k, 2)) == 0) {
                    set |= 1 << k;
                }
            }
            return set;
        }
    }

    /** What bets bring: the bookmaker's worst and mean, the punter's sure sets and digs. */
    private static final class Ledger {
        static final int SETS = 1 << MOST_BETS;
        static final int MORE_THAN_ANY_WIN = MOST_BETS * MOST_STAKE * MOST_ODDS + 1;

        final boolean[] seenSet = new boolean[SETS];
        final int[] heldSets = new int[PASTS];
        final int[] pays = new int[SETS];
        final int[] stakes = new int[SETS];
        int heldCount;
        int worstBook;
        int worstPast;
        int sureSet;
        int sureWin;

        void seekWorst(Table bets, Pasts seen) {
            worstPast = NONE;
            for (int past = 0; past < PASTS; past++) {
                if (seen.weight[past] > 0) {
                    int has = bookIn(bets, past);
                    if (worstPast == NONE || has < worstBook) {
                        worstBook = has;
                        worstPast = past;
                    }
                }
            }
        }

        static long weighedBook(Table bets, Pasts seen) {
            long sum = 0;
            for (int past = 0; past < PASTS; past++) {
                if (seen.weight[past] > 0) {
                    sum += seen.weight[past] * bookIn(bets, past);
                }
            }
            return sum;
        }

        /** WORTH, times all that the pasts weigh together: that is its divisor for every fact. */
        static long weighedWorth(Table bets, int bet, int fact, Pasts seen) {
            long ifSo = 0;
            long ifNot = 0;
            for (int past = 0; past < PASTS; past++) {
                if (seen.weight[past] > 0) {
                    long gain = seen.weight[past] * gainIn(bets, bet, past);
                    if (wasSo(past, fact)) {
                        ifSo += gain;
                    } else {
                        ifNot += gain;
                    }
                }
            }
            return Math.max(0, ifSo) + Math.max(0, ifNot) - Math.max(0, ifSo + ifNot);
        }

        static int bestDig(Table bets, int bet, Pasts seen) {
            int best = 0;
            long most = weighedWorth(bets, bet, 0, seen);
            for (int fact = 1; fact < FACTS; fact++) {
                long worth = weighedWorth(bets, bet, fact, seen);
                if (worth > most) {
                    most = worth;
                    best = fact;
                }
            }
            return best;
        }

        /** Leaves sureSet 0 if there is no such set. */
        void seekSure(Table bets, Pasts seen) {
            sureSet = 0;
            sureWin = 0;
            listHeldSets(bets, seen);
            if (heldCount == 0) {
                return;
            }
            sumSets(bets);
            int sets = Math.min(SETS, 1 << bets.size);
            for (int set = 1; set < sets; set++) {
                int win = leastWin(set, Math.max(1, sureWin));
                boolean fewer = Integer.bitCount(set) < Integer.bitCount(sureSet);
                if (win > sureWin || win == sureWin && fewer) {
                    sureSet = set;
                    sureWin = win;
                }
            }
        }

        /** Pasts in which the same bets hold are one to the punter. */
        private void listHeldSets(Table bets, Pasts seen) {
            for (int set = 0; set < SETS; set++) {
                seenSet[set] = false;
            }
            heldCount = 0;
            for (int past = 0; past < PASTS; past++) {
                if (seen.weight[past] > 0) {
                    int set = heldSet(bets, past);
                    if (!seenSet[set]) {
                        seenSet[set] = true;
                        heldSets[heldCount] = set;
                        heldCount++;
                    }
                }
            }
        }

        private static int heldSet(Table bets, int past) {
            int set = 0;
            for (int bet = 0; bet < bets.size && bet < MOST_BETS; bet++) {
                if (betHolds(bets, bet, past)) {
                    set |= 1 << bet;
                }
            }
            return set;
        }

        /** Each bet doubles the sets that are summed: the old ones, and their copies with it. */
        private void sumSets(Table bets) {
            pays[0] = 0;
            stakes[0] = 0;
            for (int bet = 0; bet < bets.size && bet < MOST_BETS; bet++) {
                int stake = bets.cell(bet, 3);
                int pay = stake * bets.cell(bet, 4);
                int half = 1 << bet;
                for (int set = 0; set < half; set++) {
                    pays[set + half] = pays[set] + pay;
                    stakes[set + half] = stakes[set] + stake;
                }
            }
        }

        /** The least that a set wins, or 0 as soon as that is known to be less than a floor. */
        private int leastWin(int set, int floor) {
            int least = MORE_THAN_ANY_WIN;
            for (int k = 0; k < heldCount; k++) {
                int held = heldSets[k] & set;
                int win = pays[held] - stakes[set - held];
                if (win < floor) {
                    return 0;
                }
                least = Math.min(least, win);
            }
            return least;
        }
    }

    /** Days until a claim is settled, by draws from a seed. */
    private static final class Settling {
        static final long FACTOR = 1103515245L;
        static final long STEP = 12345L;
        static final long ROUND = 2147483648L;
        static final long CUT = 65536L;

        final int[] left = new int[PASTS];
        int leftCount;
        long x;

        void begin(int seed) {
            x = seed;
        }

        private int draw(int sides) {
            x = (x * FACTOR + STEP) % ROUND;
            return sides < 1 ? 0 : (int) (x / CUT % sides);
        }

        int daysOnce(Pasts seen, int kind, int a, int b) {
            leftCount = seen.listFitting(left);
            int place = draw(leftCount);
            if (place < 0 || place >= leftCount) {
                return 0;
            }
            int truth = left[place];
            int known = 0;
            int day = 0;
            boolean open = isOpen(kind, a, b);
            for (; day < MOST_DAYS && open; day++) {
                int fact = draw(FACTS);
                if (!wasSo(known, fact)) {
                    known |= 1 << fact;
                    narrow(fact, wasSo(truth, fact));
                    open = isOpen(kind, a, b);
                }
            }
            return day;
        }

        private void narrow(int fact, boolean so) {
            int stay = 0;
            for (int k = 0; k < leftCount; k++) {
                if (wasSo(left[k], fact) == so) {
                    left[stay] = left[k];
                    stay++;
                }
            }
            leftCount = stay;
        }

        private boolean isOpen(int kind, int a, int b) {
            for (int k = 1; k < leftCount; k++) {
                if (claimHolds(kind, a, b, left[k]) != claimHolds(kind, a, b, left[0])) {
                    return true;
                }
            }
            return false;
        }
    }

    /** THE TEXT, and how a past is read from it, token by token. */
    private static final class Reader {
        static final int END = 0;
        static final int WORD = 1;
        static final int NUMBER = 2;
        static final int STOP = 3;
        static final int STRANGE = 4;
        static final int BLANK = 32;

        static final int[] RULE_MOST = {3, 6, 6};
        static final int[] FIND_MOST = {6, 1, 10};
        static final int[] BET_MOST = {5, 6, 6, 99, 99};
        static final int STAKE_AT = 3;

        final byte[] bytes = new byte[MOST_BYTES];
        final int[] numbers = new int[Table.WIDE];
        int size;
        /** Where the token begins that was taken last: the FAULT, if it can not stand there. */
        int place;
        int behind;
        int sort;

        void append(int c) {
            if (size < MOST_BYTES) {
                bytes[size] = (byte) c;
                size++;
            }
        }

        /** How many items; NONE, if there is a fault. */
        int readInto(Story story) {
            story.empty();
            behind = 0;
            for (int items = 0; items <= MOST_BYTES; items++) {
                takeToken();
                if (sort == END) {
                    return items == 0 ? NONE : items;
                }
                if (!readItem(story, items == 0)) {
                    return NONE;
                }
            }
            return NONE;
        }

        private boolean readItem(Story story, boolean first) {
            if (sort != WORD || first != isWord("past")) {
                return false;
            }
            if (first) {
                takeToken();
                return sort == STOP;
            }
            if (isWord("rule")) {
                return readRow(story.laws, RULE_MOST);
            }
            if (isWord("find")) {
                return readRow(story.finds, FIND_MOST);
            }
            return isWord("bet") && readRow(story.bets, BET_MOST);
        }

        private boolean readRow(Table table, int[] most) {
            if (table.isFull()) {
                return false;
            }
            for (int k = 0; k < most.length && k < numbers.length; k++) {
                takeToken();
                if (sort != NUMBER) {
                    return false;
                }
                int x = numberHere();
                if (x > most[k] || k == STAKE_AT && x == 0) {
                    return false;
                }
                numbers[k] = x;
            }
            takeToken();
            if (sort != STOP) {
                return false;
            }
            if (most.length == Table.NARROW) {
                table.addThree(numbers[0], numbers[1], numbers[2]);
            } else {
                table.addFive(numbers[0], numbers[1], numbers[2], numbers[3], numbers[4]);
            }
            return true;
        }

        private void takeToken() {
            place = behind;
            for (int i = behind; i < size && bytes[i] == BLANK; i++) {
                place = i + 1;
            }
            if (place >= size) {
                behind = place;
                sort = END;
                return;
            }
            if (isLetter(bytes[place])) {
                behind = endOfRun(WORD);
                sort = WORD;
            } else if (isFigure(bytes[place])) {
                behind = endOfRun(NUMBER);
                sort = behind - place > 2 ? STRANGE : NUMBER;
            } else {
                behind = place + 1;
                sort = bytes[place] == ';' ? STOP : STRANGE;
            }
        }

        private int endOfRun(int wanted) {
            int end = place;
            while (end < size && (wanted == WORD ? isLetter(bytes[end]) : isFigure(bytes[end]))) {
                end++;
            }
            return end;
        }

        private int numberHere() {
            int x = 0;
            for (int i = place; i < behind && i < size; i++) {
                x = 10 * x + bytes[i] - '0';
            }
            return x;
        }

        private boolean isWord(String word) {
            if (behind - place != word.length()) {
                return false;
            }
            for (int i = 0; i < word.length() && place + i < size; i++) {
                if (bytes[place + i] != word.charAt(i)) {
                    return false;
                }
            }
            return true;
        }

        private static boolean isLetter(int c) {
            return c >= 'a' && c <= 'z';
        }

        private static boolean isFigure(int c) {
            return c >= '0' && c <= '9';
        }
    }

    /** THE FRACTION, in lowest terms. */
    private static final class Fraction {
        static final int MOST_ROUNDS = 1000;

        long above = 0;
        long below = 1;

        void put(long top, long bottom) {
            long common = commonDivisor(Math.abs(top), bottom);
            if (bottom < 1 || common < 1) {
                return;
            }
            above = top / common;
            below = bottom / common;
        }

        private static long commonDivisor(long x, long y) {
            long big = x;
            long small = y;
            for (int round = 0; round < MOST_ROUNDS && small != 0; round++) {
                long rest = big % small;
                big = small;
                small = rest;
            }
            return big;
        }
    }
}
