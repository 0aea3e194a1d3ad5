/**
 * A small machine whose stored bits may flip at any tick of a program, and which of these flips matter.
 *
 * Two facts of the document carry the work on flips. Until a struck cell is read for the first time, the run
 * with the flip goes as the run without one; so all flips of one bit ahead of the same first reading share one
 * fate, and a run with a flip need only be tried from that reading on. And a check never changes how a run
 * goes, it only ends it: so fates are found without checks, and the checks are laid over them afterwards.
 */
public final class StruckBits {
    public static final int NONE = -1, UNKNOWN = -101, OUTSIDE = -102, STATE = -103, FULL = -104;

    private static final int CELLS = 8, BITS = 8, MOST_VALUE = 255;
    private static final int MOST_ORDERS = 20, MOST_TICKS = 100, MOST_TOLD = 12;

    private static final int SET = 0, COPY = 1, ADD = 2, AND = 3, UNLIKE = 4, HALF = 5;
    private static final int JUMP = 6, IF = 7, TELL = 8, FROM = 9, TO = 10, END = 11;

    private static final int ENDS = 0, CRASHES = 1, ENDLESS = 2, GOING = 3;

    private static final int KINDS = 6;
    private static final int KIND_DEAD = 0, KIND_MASKED = 1, KIND_CAUGHT = 2;
    private static final int KIND_CRASHES = 3, KIND_ENDLESS = 4, KIND_SILENT = 5;

    private static final int CHECKS = 4;
    private static final int PARITY = 1, DOUBLE = 2, SUM = 3;
    private static final int[] PRICES = {0, 1, 8, 2};
    private static final int MOST_PRICE = 64;

    private static final int MOST_SEARCHES = 60, BEST_WEIGHT = 4;

    /** What a call's arguments are told if nothing speaks against them; no refusal bears this number. */
    private static final int ACCEPTED = 0;

    private final Program program = new Program();
    private final int[] start = new int[CELLS];
    private final int[] checks = new int[CELLS];
    private final Trace trace = new Trace(program);
    private final Flips flips = new Flips(program, trace);
    private final Advice advice = new Advice();
    private boolean stale = true;
    private int searches;

    public StruckBits() {
    }

    // ---- the program

    public int order(int op, int a, int b) {
        if (!Program.fits(op, a, b)) {
            return OUTSIDE;
        }
        if (program.length >= MOST_ORDERS) {
            return FULL;
        }
        program.put(program.length, op, a, b);
        program.length++;
        stale = true;
        return program.length;
    }

    public int change(int i, int op, int a, int b) {
        if (!program.has(i)) {
            return UNKNOWN;
        }
        if (!Program.fits(op, a, b)) {
            return OUTSIDE;
        }
        program.put(i, op, a, b);
        stale = true;
        return 1;
    }

    public int clear() {
        int before = program.length;
        program.length = 0;
        stale = true;
        return before;
    }

    public int cell(int c, int v) {
        if (!isCell(c)) {
            return UNKNOWN;
        }
        if (v < 0 || v > MOST_VALUE) {
            return OUTSIDE;
        }
        int before = start[c];
        start[c] = v;
        stale = true;
        return before;
    }

    public int check(int c, int kind) {
        if (!isCell(c)) {
            return UNKNOWN;
        }
        if (kind < 0 || kind >= CHECKS) {
            return OUTSIDE;
        }
        int before = checks[c];
        checks[c] = kind;
        return before;
    }

    // ---- the run without a flip

    public int run() {
        return plainRun().ending;
    }

    public int ticks() {
        return plainRun().tick;
    }

    public int many() {
        return plainRun().rowLength;
    }

    public int told(int i) {
        Machine plain = plainRun();
        if (i < 0 || i >= plain.rowLength) {
            return NONE;
        }
        return plain.row[i];
    }

    public int after(int c) {
        if (!isCell(c)) {
            return UNKNOWN;
        }
        return plainRun().cells[c];
    }

    public int dead(int c, int t) {
        if (!isCell(c)) {
            return UNKNOWN;
        }
        int refusal = refusalOfTick(t);
        if (refusal != ACCEPTED) {
            return refusal;
        }
        return trace.isRead(c, trace.nextUse(c, t)) ? 0 : 1;
    }

    // ---- flips

    public int flip(int c, int k, int w, int t) {
        int refusal = refusalOfFlip(c, k, w, t);
        if (refusal != ACCEPTED) {
            return refusal;
        }
        return Fate.kindUnder(flips.fateOf(c, k, w, t), checks[c], w);
    }

    public int harm(int c, int k, int w, int t) {
        int refusal = refusalOfFlip(c, k, w, t);
        if (refusal != ACCEPTED) {
            return refusal;
        }
        return Fate.harmUnder(flips.fateOf(c, k, w, t), checks[c], w);
    }

    public int lasts(int c, int k, int w, int t) {
        int refusal = refusalOfFlip(c, k, w, t);
        if (refusal != ACCEPTED) {
            return refusal;
        }
        int fate = flips.fateOf(c, k, w, t);
        if (Fate.isCaughtReading(fate, checks[c], w)) {
            return trace.nextUse(c, t) + 1 - t;
        }
        return Fate.ticksOf(fate) - t;
    }

    public int count(int c, int w, int kind) {
        if (!isCell(c) && c != CELLS) {
            return UNKNOWN;
        }
        if (!isWidth(w) || kind < 0 || kind >= KINDS) {
            return OUTSIDE;
        }
        int refusal = refusalOfSearch(1);
        if (refusal != ACCEPTED) {
            return refusal;
        }
        searches++;
        flips.tryAll(w);
        int sum = 0;
        for (int code = 0; code < flips.codes(); code++) {
            boolean counts = c == CELLS || c == Flips.cellOf(code);
            if (counts && flips.isFlip(code) && flips.kindOf(code, checks) == kind) {
                sum++;
            }
        }
        return sum;
    }

    public int all(int w) {
        if (!isWidth(w)) {
            return OUTSIDE;
        }
        int refusal = refusalOfSearch(1);
        if (refusal != ACCEPTED) {
            return refusal;
        }
        searches++;
        flips.tryAll(w);
        int sum = 0;
        for (int code = 0; code < flips.codes(); code++) {
            if (flips.isFlip(code)) {
                sum += flips.harmOf(code, checks);
            }
        }
        return sum;
    }

    public int worst(int w, int i) {
        if (!isWidth(w)) {
            return OUTSIDE;
        }
        int refusal = refusalOfSearch(1);
        if (refusal != ACCEPTED) {
            return refusal;
        }
        searches++;
        flips.tryAll(w);
        return flips.worstCode(i, checks);
    }

    // ---- checks

    public int costs() {
        return priceOf(checks);
    }

    public int best(int w, int price) {
        if (!isWidth(w) || price < 0 || price > MOST_PRICE) {
            return OUTSIDE;
        }
        int refusal = refusalOfSearch(BEST_WEIGHT);
        if (refusal != ACCEPTED) {
            return refusal;
        }
        searches += BEST_WEIGHT;
        flips.tryAll(w);
        return advice.find(flips, price);
    }

    public int chosen(int c) {
        if (!isCell(c)) {
            return UNKNOWN;
        }
        return chosenOrNone(c);
    }

    public int take() {
        if (!advice.given) {
            return NONE;
        }
        for (int c = 0; c < CELLS; c++) {
            checks[c] = advice.picked[c];
        }
        return priceOf(checks);
    }

    // ---- what is told

    public int about(int i, int what) {
        if (!program.has(i)) {
            return UNKNOWN;
        }
        switch (what) {
            case 0:
                return program.ops[i];
            case 1:
                return program.firsts[i];
            case 2:
                return program.seconds[i];
            default:
                return OUTSIDE;
        }
    }

    public int size(int what) {
        switch (what) {
            case 0:
                return program.length;
            case 1:
                return checkedCells();
            case 2:
                return searches;
            default:
                return OUTSIDE;
        }
    }

    public long digest() {
        long h = 179;
        for (int i = 0; i < program.length; i++) {
            h = 31 * h + program.ops[i];
            h = 31 * h + program.firsts[i];
            h = 31 * h + program.seconds[i];
        }
        for (int c = 0; c < CELLS; c++) {
            h = 31 * h + start[c];
            h = 31 * h + checks[c];
            h = 31 * h + chosenOrNone(c);
        }
        Machine plain = plainRun();
        h = 31 * h + plain.ending;
        h = 31 * h + plain.tick;
        return 31 * h + searches;
    }

    // ---- what the calls share

    /** The run without a flip, tried anew only if the program or the cells as told were changed since. */
    private Machine plainRun() {
        if (stale) {
            trace.follow(start);
            flips.forget();
            stale = false;
        }
        return trace.plain;
    }

    private int refusalOfTick(int t) {
        Machine plain = plainRun();
        if (plain.ending != ENDS) {
            return STATE;
        }
        return t < 0 || t >= plain.tick ? OUTSIDE : ACCEPTED;
    }

    private int refusalOfFlip(int c, int k, int w, int t) {
        if (!isCell(c)) {
            return UNKNOWN;
        }
        if (!isWidth(w) || k < 0 || k > BITS - w) {
            return OUTSIDE;
        }
        return refusalOfTick(t);
    }

    private int refusalOfSearch(int weight) {
        if (plainRun().ending != ENDS) {
            return STATE;
        }
        return searches + weight > MOST_SEARCHES ? FULL : ACCEPTED;
    }

    private int chosenOrNone(int c) {
        return advice.given ? advice.picked[c] : NONE;
    }

    private int checkedCells() {
        int sum = 0;
        for (int c = 0; c < CELLS; c++) {
            if (checks[c] != 0) {
                sum++;
            }
        }
        return sum;
    }

    private static int priceOf(int[] someChecks) {
        int sum = 0;
        for (int c = 0; c < CELLS; c++) {
            sum += PRICES[someChecks[c]];
        }
        return sum;
    }

    private static boolean isCell(int c) {
        return c >= 0 && c < CELLS;
    }

    private static boolean isWidth(int w) {
        return w == 1 || w == 2;
    }

    /** The row of orders; what an order has not is held as 0. */
    private static final class Program {
        final int[] ops = new int[MOST_ORDERS];
        final int[] firsts = new int[MOST_ORDERS];
        final int[] seconds = new int[MOST_ORDERS];
        int length;

        static boolean fits(int op, int a, int b) {
            switch (op) {
                case SET:
                    return isCell(a) && b >= 0 && b <= MOST_VALUE;
                case COPY:
                case ADD:
                case AND:
                case UNLIKE:
                case FROM:
                case TO:
                    return isCell(a) && isCell(b);
                case HALF:
                case TELL:
                    return isCell(a);
                case JUMP:
                    return isTarget(a);
                case IF:
                    return isCell(a) && isTarget(b);
                default:
                    return op == END;
            }
        }

        boolean has(int i) {
            return i >= 0 && i < length;
        }

        /** Only for an order that fits, at a place below MOST_ORDERS. */
        void put(int i, int op, int a, int b) {
            boolean hasFirst = op != END;
            boolean hasSecond = hasFirst && op != HALF && op != TELL && op != JUMP;
            ops[i] = op;
            firsts[i] = hasFirst ? a : 0;
            seconds[i] = hasSecond ? b : 0;
        }

        private static boolean isTarget(int t) {
            return t >= 0 && t < MOST_ORDERS;
        }
    }

    /** One run of the program, tick by tick, with what each tick reads and writes as masks of cells. */
    private static final class Machine {
        final Program program;
        final int[] cells = new int[CELLS];
        final int[] row = new int[MOST_TOLD];
        int rowLength;
        int next;
        int tick;
        int ending = GOING;
        int readNow;
        int writtenNow;
        int writtenSince;

        Machine(Program program) {
            this.program = program;
        }

        /** Ready ahead of a tick; the cells and the told numbers are filled in by the caller. */
        void standAt(int atTick, int atOrder, int toldSoFar) {
            tick = atTick;
            next = atOrder;
            rowLength = toldSoFar;
            writtenSince = 0;
            ending = program.has(atOrder) ? GOING : ENDS;
        }

        void goOn() {
            for (int t = tick; t < MOST_TICKS && ending == GOING; t++) {
                step();
            }
            stopIfGoing();
        }

        void stopIfGoing() {
            if (ending == GOING) {
                ending = ENDLESS;
            }
        }

        /** Only while the run is going: then the next order is there. */
        void step() {
            int i = next;
            readNow = 0;
            writtenNow = 0;
            next = i + 1;
            obey(program.ops[i], program.firsts[i], program.seconds[i]);
            tick++;
            writtenSince |= writtenNow;
            if (ending == GOING && !program.has(next)) {
                ending = ENDS;
            }
        }

        private void obey(int op, int a, int b) {
            switch (op) {
                case SET:
                    write(a, b);
                    break;
                case COPY:
                    write(a, read(b));
                    break;
                case ADD:
                    write(a, read(a) + read(b) & MOST_VALUE);
                    break;
                case AND:
                    write(a, read(a) & read(b));
                    break;
                case UNLIKE:
                    write(a, read(a) ^ read(b));
                    break;
                case HALF:
                    write(a, read(a) >> 1);
                    break;
                case JUMP:
                    next = a;
                    break;
                case IF:
                    next = read(a) != 0 ? b : next;
                    break;
                case TELL:
                    tell(read(a));
                    break;
                case FROM:
                    int source = read(b);
                    if (isCell(source)) {
                        write(a, read(source));
                    } else {
                        ending = CRASHES;
                    }
                    break;
                case TO:
                    int target = read(a);
                    int value = read(b);
                    if (isCell(target)) {
                        write(target, value);
                    } else {
                        ending = CRASHES;
                    }
                    break;
                default:
                    ending = ENDS;
                    break;
            }
        }

        private void tell(int value) {
            if (rowLength >= MOST_TOLD) {
                ending = CRASHES;
                return;
            }
            row[rowLength] = value;
            rowLength++;
        }

        private int read(int c) {
            readNow |= 1 << c;
            return cells[c];
        }

        private void write(int c, int value) {
            writtenNow |= 1 << c;
            cells[c] = value;
        }
    }

    /** The run without a flip, with what stood ahead of each tick: a run with a flip can set out from there. */
    private static final class Trace {
        final Machine plain;
        private final int[] cellsAhead = new int[MOST_TICKS * CELLS];
        private final int[] nextAhead = new int[MOST_TICKS];
        private final int[] toldAhead = new int[MOST_TICKS];
        private final int[] reads = new int[MOST_TICKS];
        private final int[] writes = new int[MOST_TICKS];

        Trace(Program program) {
            plain = new Machine(program);
        }

        void follow(int[] start) {
            System.arraycopy(start, 0, plain.cells, 0, CELLS);
            plain.standAt(0, 0, 0);
            for (int t = 0; t < MOST_TICKS && plain.ending == GOING; t++) {
                System.arraycopy(plain.cells, 0, cellsAhead, t * CELLS, CELLS);
                nextAhead[t] = plain.next;
                toldAhead[t] = plain.rowLength;
                plain.step();
                reads[t] = plain.readNow;
                writes[t] = plain.writtenNow;
            }
            plain.stopIfGoing();
        }

        /** Sets another machine where this run stood ahead of tick t (0 to the run's ticks less 1). */
        void lead(Machine other, int t) {
            System.arraycopy(cellsAhead, t * CELLS, other.cells, 0, CELLS);
            System.arraycopy(plain.row, 0, other.row, 0, toldAhead[t]);
            other.standAt(t, nextAhead[t], toldAhead[t]);
        }

        /** The first tick from t on (t not below 0) that reads or writes a cell; the run's ticks if none does. */
        int nextUse(int c, int t) {
            for (int u = t; u < plain.tick; u++) {
                if (((reads[u] | writes[u]) >> c & 1) != 0) {
                    return u;
                }
            }
            return plain.tick;
        }

        boolean isRead(int c, int t) {
            return t < plain.tick && (reads[t] >> c & 1) != 0;
        }

        boolean isWritten(int c, int t) {
            return t < plain.tick && (writes[t] >> c & 1) != 0;
        }
    }

    /** What comes of a flip if no check is there, as one number, so that a row of numbers holds all fates. */
    private static final class Fate {
        private static final int KIND_MASK = 7, STRUCK_STILL = 8, HARM_SHIFT = 4, HARM_MASK = 15, TICKS_SHIFT = 8;

        /** struckStill: the run ends and the cell was not written since it was struck. */
        static int of(int kind, boolean struckStill, int harm, int ticks) {
            return kind | (struckStill ? STRUCK_STILL : 0) | harm << HARM_SHIFT | ticks << TICKS_SHIFT;
        }

        static int ticksOf(int fate) {
            return fate >> TICKS_SHIFT;
        }

        static boolean isCaughtReading(int fate, int check, int w) {
            boolean looks = check == DOUBLE || check == PARITY && w == 1;
            return looks && (fate & KIND_MASK) != KIND_DEAD;
        }

        static int kindUnder(int fate, int check, int w) {
            boolean caughtAtEnd = check == SUM && (fate & STRUCK_STILL) != 0;
            if (caughtAtEnd || isCaughtReading(fate, check, w)) {
                return KIND_CAUGHT;
            }
            return fate & KIND_MASK;
        }

        static int harmUnder(int fate, int check, int w) {
            return kindUnder(fate, check, w) == KIND_SILENT ? fate >> HARM_SHIFT & HARM_MASK : 0;
        }
    }

    /**
     * The fates of flips. A flip's code is 64 t and 8 c and k: flips in the order of their codes stand as the
     * document orders those of like harm.
     */
    private static final class Flips {
        private static final int PLACES = CELLS * BITS;

        private final Trace trace;
        private final Machine struck;
        private final int[] fates = new int[MOST_TICKS * PLACES];
        private final int[] silentOfHarm = new int[MOST_TOLD + 1];
        private int width;

        Flips(Program program, Trace trace) {
            this.trace = trace;
            struck = new Machine(program);
        }

        static int cellOf(int code) {
            return code / BITS % CELLS;
        }

        void forget() {
            width = 0;
        }

        int codes() {
            return trace.plain.tick * PLACES;
        }

        /** Two neighbours have no place at the highest bit. */
        boolean isFlip(int code) {
            return code % BITS + width <= BITS;
        }

        /** The fate of one flip, in a run without a flip that ends, with t within it. */
        int fateOf(int c, int k, int w, int t) {
            int use = trace.nextUse(c, t);
            if (trace.isRead(c, use)) {
                return fateFromReading(c, k, w, use);
            }
            return unreadFate(!trace.isWritten(c, use));
        }

        /**
         * Finds the fates of all flips of a width, if they are not those found latest: from the last tick back, as
         * a flip ahead of a tick that leaves the cell alone fares as one behind that tick.
         */
        void tryAll(int w) {
            if (width == w) {
                return;
            }
            width = w;
            for (int place = 0; place < PLACES; place++) {
                int c = cellOf(place);
                int fate = unreadFate(true);
                for (int t = trace.plain.tick - 1; t >= 0 && isFlip(place); t--) {
                    if (trace.isRead(c, t)) {
                        fate = fateFromReading(c, place % BITS, w, t);
                    } else if (trace.isWritten(c, t)) {
                        fate = unreadFate(false);
                    }
                    fates[t * PLACES + place] = fate;
                }
            }
        }

        int kindOf(int code, int[] checks) {
            return Fate.kindUnder(fates[code], checks[cellOf(code)], width);
        }

        int harmOf(int code, int[] checks) {
            return Fate.harmUnder(fates[code], checks[cellOf(code)], width);
        }

        boolean isSilentUnder(int code, int check) {
            return Fate.kindUnder(fates[code], check, width) == KIND_SILENT;
        }

        int worstCode(int i, int[] checks) {
            if (i < 0) {
                return NONE;
            }
            tallyHarm(checks);
            int rest = i;
            for (int harm = MOST_TOLD; harm > 0; harm--) {
                if (rest < silentOfHarm[harm]) {
                    return codeOfHarm(harm, rest, checks);
                }
                rest -= silentOfHarm[harm];
            }
            return NONE;
        }

        private void tallyHarm(int[] checks) {
            for (int harm = 0; harm <= MOST_TOLD; harm++) {
                silentOfHarm[harm] = 0;
            }
            for (int code = 0; code < codes(); code++) {
                if (isFlip(code)) {
                    silentOfHarm[harmOf(code, checks)]++;
                }
            }
        }

        private int codeOfHarm(int harm, int i, int[] checks) {
            int rest = i;
            for (int code = 0; code < codes(); code++) {
                if (isFlip(code) && harmOf(code, checks) == harm) {
                    if (rest == 0) {
                        return code;
                    }
                    rest--;
                }
            }
            return NONE;
        }

        private int unreadFate(boolean struckStill) {
            return Fate.of(KIND_DEAD, struckStill, 0, trace.plain.tick);
        }

        private int fateFromReading(int c, int k, int w, int t) {
            trace.lead(struck, t);
            struck.cells[c] ^= (1 << w) - 1 << k;
            struck.goOn();
            if (struck.ending == CRASHES) {
                return Fate.of(KIND_CRASHES, false, 0, struck.tick);
            }
            if (struck.ending == ENDLESS) {
                return Fate.of(KIND_ENDLESS, false, 0, struck.tick);
            }
            boolean struckStill = (struck.writtenSince >> c & 1) == 0;
            int harm = unlikePlaces();
            return Fate.of(harm == 0 ? KIND_MASKED : KIND_SILENT, struckStill, harm, struck.tick);
        }

        private int unlikePlaces() {
            Machine plain = trace.plain;
            int both = Math.min(plain.rowLength, struck.rowLength);
            int sum = Math.max(plain.rowLength, struck.rowLength) - both;
            for (int i = 0; i < both; i++) {
                if (plain.row[i] != struck.row[i]) {
                    sum++;
                }
            }
            return sum;
        }
    }

    /** The best checks under a price: a flip strikes one cell alone, so each cell's silent flips simply add up. */
    private static final class Advice {
        private static final int PURSES = MOST_PRICE + 1;

        final int[] picked = new int[CELLS];
        boolean given;
        private final int[] silent = new int[CELLS * CHECKS];
        /** By cell and purse: the fewest silent flips of this cell and those behind it, paid from the purse. */
        private final int[] fewest = new int[(CELLS + 1) * PURSES];

        /** Only with all flips of a width tried, and a price of 0 to MOST_PRICE. */
        int find(Flips flips, int price) {
            tallySilent(flips);
            for (int c = CELLS - 1; c >= 0; c--) {
                for (int purse = 0; purse <= price; purse++) {
                    fewest[c * PURSES + purse] = fewestFrom(c, purse);
                }
            }
            given = true;
            pick(leastPurse(price));
            return fewest[price];
        }

        private void tallySilent(Flips flips) {
            for (int i = 0; i < CELLS * CHECKS; i++) {
                silent[i] = 0;
            }
            for (int code = 0; code < flips.codes(); code++) {
                if (flips.isFlip(code)) {
                    tallyFlip(flips, code);
                }
            }
        }

        private void tallyFlip(Flips flips, int code) {
            for (int check = 0; check < CHECKS; check++) {
                if (flips.isSilentUnder(code, check)) {
                    silent[Flips.cellOf(code) * CHECKS + check]++;
                }
            }
        }

        private int fewestFrom(int c, int purse) {
            int least = fewestWith(c, purse, 0);
            for (int check = 1; check < CHECKS; check++) {
                if (PRICES[check] <= purse) {
                    least = Math.min(least, fewestWith(c, purse, check));
                }
            }
            return least;
        }

        /** Only for a check that the purse can pay. Behind the last cell stand zeros. */
        private int fewestWith(int c, int purse, int check) {
            return silent[c * CHECKS + check] + fewest[(c + 1) * PURSES + purse - PRICES[check]];
        }

        private int leastPurse(int price) {
            int purse = price;
            while (purse > 0 && fewest[purse - 1] == fewest[price]) {
                purse--;
            }
            return purse;
        }

        /** With no more in the purse than the fewest silent flips need, the least price comes by itself. */
        private void pick(int leastPurse) {
            int purse = leastPurse;
            for (int c = 0; c < CELLS; c++) {
                int check = leastCheck(c, purse);
                picked[c] = check;
                purse -= PRICES[check];
            }
        }

        private int leastCheck(int c, int purse) {
            for (int check = 0; check < CHECKS; check++) {
                if (PRICES[check] <= purse && fewestWith(c, purse, check) == fewest[c * PURSES + purse]) {
                    return check;
                }
            }
            return 0;
        }
    }
}
