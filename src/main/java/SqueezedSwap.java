import java.util.Arrays;
import java.util.NoSuchElementException;

/**
 * A swap squeezed in memory, told as a text: data of sixteen cells, pages stored from them in a pool of zones, on disk
 * or as words, and what these would cost otherwise.
 */
public final class SqueezedSwap {
    public static final int NONE = -1;

    private static final int NOTHING = -2;
    private static final int CELLS = 16;
    private static final int CELL_MOST = 99;
    private static final int UNITS = 16;
    private static final int CLASS_MOST = 16;
    private static final int SIZE_LEAST = 2;
    private static final int SIZE_MOST = 15;
    private static final int BIG_LEAST = 4;
    private static final int STEP_MOST = 4;
    private static final int LIMIT_MOST = 24;
    private static final int TAPE_ROOM = 900;
    private static final int FED = 20;
    private static final int DATA_ROOM = 10;
    private static final int OP_ROOM = 24;
    private static final int PAGE_ROOM = 30;
    // A zone has a frame at least, and the pool never had more frames than the highest limit.
    private static final int ZONE_ROOM = 24;
    private static final int SLOT_ROOM = 16;
    private static final int UNDO_ROOM = 10;

    private static final int NO_SUCH = 1;
    private static final int BAD_NUMBER = 2;
    private static final int FAULTY = 4;
    private static final int NOT_SO = 5;

    private static final int NOWHERE = 0;
    private static final int AS_WORD = 1;
    private static final int IN_POOL = 2;
    private static final int ON_DISK = 3;

    private static final int WRITTEN = 0;
    private static final int PUSHED = 1;
    private static final int READ = 2;
    private static final int MOVED = 3;
    private static final int TOTAL_COUNT = 4;

    private static final int OP_STORE = 0;
    private static final int OP_LOAD = 1;
    private static final int OP_DROP = 2;

    private final int[] tape = new int[TAPE_ROOM];
    private int tapeLength;
    private boolean swapTold;
    private int troubleNumber;
    private int faultNumber;
    private int faultPlace;
    private Script script = new Script();
    private final Reader reader = new Reader();
    private final Cut cut = new Cut();
    private final State now = new State();
    private final Pool thought = new Pool();
    private final History history = new History();

    public SqueezedSwap() {
    }

    // ---- the swap

    public int feed(int a, int b, int c, int d, int e) {
        if (tapeLength + FED > TAPE_ROOM) {
            return NONE;
        }
        feedNumber(a);
        feedNumber(b);
        feedNumber(c);
        feedNumber(d);
        feedNumber(e);
        return tapeLength;
    }

    public int swap(int n) {
        if (n < 0 || n > tapeLength) {
            return refuse(BAD_NUMBER);
        }
        tapeLength = 0;
        faultNumber = reader.readScript(tape, n);
        if (faultNumber != 0) {
            faultPlace = reader.place();
            return refuse(FAULTY);
        }
        script = reader.trade(script);
        swapTold = true;
        now.begin(script, cut);
        history.forget();
        return answer(script.dataCount);
    }

    public int fault() {
        return faultNumber;
    }

    public int where() {
        return troubleNumber == FAULTY ? faultPlace : NONE;
    }

    public int about(int what) {
        if (!swapTold) {
            return refuse(NO_SUCH);
        }
        Pool pool = now.pool;
        switch (what) {
            case 0: return answer(pool.frameLimit);
            case 1: return answer(pool.classStep);
            case 2: return answer(pool.bigSize);
            case 3: return answer(script.dataCount);
            case 4: return answer(script.opCount);
            case 5: return answer(pool.zones.frames);
            case 6: return answer(pool.zones.countAll());
            case 7: return answer(pool.ageCount);
            case 8: return answer(pool.countAt(AS_WORD));
            case 9: return answer(pool.countAt(ON_DISK));
            case 10: return answer(pool.unitsTaken());
            default: return refuse(NO_SUCH);
        }
    }

    // ---- data

    public int cell(int data, int i) {
        if (noData(data) || noCell(i)) {
            return refuse(NO_SUCH);
        }
        return answer(now.cells[data * CELLS + i]);
    }

    public int squeezed(int data) {
        if (noData(data)) {
            return refuse(NO_SUCH);
        }
        return answer(now.sizes[data]);
    }

    public int pieces(int data) {
        if (noData(data)) {
            return refuse(NO_SUCH);
        }
        cutData(data);
        return answer(cut.pieceCount);
    }

    public int piece(int data, int i, int what) {
        if (noData(data)) {
            return refuse(NO_SUCH);
        }
        cutData(data);
        if (i < 0 || i >= cut.pieceCount) {
            return refuse(NO_SUCH);
        }
        switch (what) {
            case 0: return answer(cut.sorts[i]);
            case 1: return answer(cut.firsts[i]);
            case 2: return answer(cut.lengths[i]);
            case 3: return answer(cut.distances[i]);
            default: return refuse(NO_SUCH);
        }
    }

    public int fewest(int data) {
        if (noData(data)) {
            return refuse(NO_SUCH);
        }
        cut.measure(now.cells, data * CELLS);
        return answer(cut.counts[0]);
    }

    public int rest(int data, int i) {
        if (noData(data) || noCell(i)) {
            return refuse(NO_SUCH);
        }
        cut.measure(now.cells, data * CELLS);
        return answer(cut.costs[i]);
    }

    public int ranked(int k) {
        if (!swapTold) {
            return refuse(NO_SUCH);
        }
        for (int data = 0; data < script.dataCount; data++) {
            if (rankOf(data) == k) {
                return answer(data);
            }
        }
        return refuse(NO_SUCH);
    }

    public int sort(int data) {
        if (noData(data)) {
            return refuse(NO_SUCH);
        }
        int size = now.sizes[data];
        if (Cut.isWordSize(size)) {
            return answer(1);
        }
        return answer(size > now.pool.bigSize ? 2 : 0);
    }

    // ---- classes

    public int home(int size) {
        if (!swapTold) {
            return refuse(NO_SUCH);
        }
        if (noSize(size)) {
            return refuse(BAD_NUMBER);
        }
        return answer(Classes.homeOf(size, now.pool.classStep));
    }

    public int sizes(int s, int what) {
        if (noClass(s)) {
            return refuse(NO_SUCH);
        }
        switch (what) {
            case 0: return answer(Classes.framesOf(s));
            case 1: return answer(Classes.slotsOf(s));
            case 2: return answer(Classes.spareOf(s));
            case 3: return answer(now.pool.zones.countOf(s));
            case 4: return answer(now.pool.zones.pagesOf(s));
            default: return refuse(NO_SUCH);
        }
    }

    public int gain() {
        if (!swapTold) {
            return refuse(NO_SUCH);
        }
        thought.copyFrom(now.pool);
        return answer(thought.compactAll());
    }

    public int next(int size) {
        if (!swapTold) {
            return refuse(NO_SUCH);
        }
        if (noSize(size)) {
            return refuse(BAD_NUMBER);
        }
        return answer(now.pool.zoneFor(Classes.homeOf(size, now.pool.classStep)));
    }

    public int coldest(int s) {
        if (noClass(s)) {
            return refuse(NO_SUCH);
        }
        return answer(now.pool.coldestOf(s));
    }

    public int fittest() {
        if (!swapTold) {
            return refuse(NO_SUCH);
        }
        int best = 1;
        for (int step = 2; step <= STEP_MOST; step++) {
            if (now.pool.framesBy(step) < now.pool.framesBy(best)) {
                best = step;
            }
        }
        return answer(best);
    }

    // ---- the pool

    public int zone(int z, int what) {
        if (noZone(z)) {
            return refuse(NO_SUCH);
        }
        Zones zones = now.pool.zones;
        switch (what) {
            case 0: return answer(zones.classes[z]);
            case 1: return answer(zones.spans[z]);
            case 2: return answer(zones.counts[z]);
            default: return refuse(NO_SUCH);
        }
    }

    public int slot(int z, int i) {
        if (noZone(z) || i < 0 || i >= now.pool.zones.rooms[z] || i >= SLOT_ROOM) {
            return refuse(NO_SUCH);
        }
        return answer(now.pool.zones.pages[z * SLOT_ROOM + i]);
    }

    public int page(int p) {
        if (noPage(p)) {
            return refuse(NO_SUCH);
        }
        return answer(now.pool.places[p]);
    }

    public int pooled(int p, int what) {
        if (noPage(p) || what < 0 || what > 4) {
            return refuse(NO_SUCH);
        }
        Pool pool = now.pool;
        if (pool.places[p] != IN_POOL) {
            return refuse(NOT_SO);
        }
        switch (what) {
            case 0: return answer(pool.sizes[p]);
            case 1: return answer(pool.zoneOf[p]);
            case 2: return answer(pool.slotOf[p]);
            case 3: return answer(pool.ageOf(p));
            default: return answer(pool.held[p]);
        }
    }

    public int read(int p, int i) {
        if (noPage(p) || noCell(i)) {
            return refuse(NO_SUCH);
        }
        if (now.pool.places[p] == NOWHERE) {
            return refuse(NOT_SO);
        }
        return answer(now.pool.cells[p * CELLS + i]);
    }

    public int aged(int i) {
        if (!swapTold || i < 0 || i >= now.pool.ageCount) {
            return refuse(NO_SUCH);
        }
        return answer(now.pool.ages[i]);
    }

    public int total(int what) {
        if (!swapTold || what < 0 || what >= TOTAL_COUNT) {
            return refuse(NO_SUCH);
        }
        return answer(now.pool.totals[what]);
    }

    public int same(int p, int q) {
        if (noPage(p) || noPage(q)) {
            return refuse(NO_SUCH);
        }
        if (now.pool.places[p] == NOWHERE || now.pool.places[q] == NOWHERE) {
            return refuse(NOT_SO);
        }
        return answer(now.pool.likeCells(p, q) ? 1 : 0);
    }

    public int waste() {
        if (!swapTold) {
            return refuse(NO_SUCH);
        }
        return answer(now.pool.zones.frames * UNITS - now.pool.unitsTaken());
    }

    // ---- in thought

    public int would(int limit, boolean compacted) {
        if (!swapTold) {
            return refuse(NO_SUCH);
        }
        if (noLimit(limit)) {
            return refuse(BAD_NUMBER);
        }
        thinkOfPool(compacted);
        return answer(thought.changeLimit(limit));
    }

    public int freeing() {
        if (!swapTold) {
            return refuse(NO_SUCH);
        }
        thought.copyFrom(now.pool);
        for (int gone = 1; gone <= PAGE_ROOM; gone++) {
            if (thought.writeColdest(1) == 0) {
                return answer(NOTHING);
            }
            if (thought.zones.frames < now.pool.zones.frames) {
                return answer(gone);
            }
        }
        return answer(NOTHING);
    }

    public int holds(boolean compacted) {
        if (!swapTold) {
            return refuse(NO_SUCH);
        }
        thinkOfPool(compacted);
        // Where all pages are held none would go, however low the limit is.
        if (thought.coldestLoose() < 0) {
            return answer(1);
        }
        return answer(Math.max(1, thought.zones.frames));
    }

    public int pushes(int p, int data) {
        if (noPage(p) || noData(data)) {
            return refuse(NO_SUCH);
        }
        thinkOfStoring(p, data);
        return answer(thought.goneCount);
    }

    public int pushed(int p, int data, int i) {
        if (noPage(p) || noData(data)) {
            return refuse(NO_SUCH);
        }
        thinkOfStoring(p, data);
        if (i < 0 || i >= thought.goneCount) {
            return refuse(NO_SUCH);
        }
        return answer(thought.gone[i]);
    }

    public int foretold(int limit, int step, int what) {
        if (!swapTold || what < WRITTEN || what > READ) {
            return refuse(NO_SUCH);
        }
        if (noLimit(limit) || step < 1 || step > STEP_MOST) {
            return refuse(BAD_NUMBER);
        }
        foretell(limit, step);
        return answer(thought.totals[what]);
    }

    public int enough() {
        if (!swapTold) {
            return refuse(NO_SUCH);
        }
        for (int limit = 1; limit <= LIMIT_MOST; limit++) {
            foretell(limit, script.classStep);
            if (thought.totals[PUSHED] == 0) {
                return answer(limit);
            }
        }
        return answer(NOTHING);
    }

    public int op(int i, int what) {
        if (noOp(i)) {
            return refuse(NO_SUCH);
        }
        switch (what) {
            case 0: return answer(script.opKinds[i]);
            case 1: return answer(script.opPages[i]);
            case 2: return answer(script.opData[i]);
            default: return refuse(NO_SUCH);
        }
    }

    // ---- acts

    public int store(int p, int data) {
        if (noPage(p) || noData(data)) {
            return refuse(NO_SUCH);
        }
        history.keep(now);
        now.pool.storePage(p, now.cells, data * CELLS, now.sizes[data]);
        return answer(now.pool.places[p]);
    }

    public int load(int p) {
        if (noPage(p)) {
            return refuse(NO_SUCH);
        }
        if (now.pool.places[p] == NOWHERE) {
            return refuse(NOT_SO);
        }
        history.keep(now);
        now.pool.loadPage(p);
        return answer(now.pool.places[p]);
    }

    public int drop(int p) {
        if (noPage(p)) {
            return refuse(NO_SUCH);
        }
        int was = now.pool.places[p];
        if (was == NOWHERE) {
            return refuse(NOT_SO);
        }
        history.keep(now);
        now.pool.dropPage(p);
        return answer(was);
    }

    public boolean hold(int p) {
        if (noPage(p)) {
            return refuseFlatly(NO_SUCH);
        }
        if (now.pool.places[p] != IN_POOL || now.pool.held[p] != 0) {
            return refuseFlatly(NOT_SO);
        }
        history.keep(now);
        now.pool.held[p] = 1;
        return agree();
    }

    public boolean release(int p) {
        if (noPage(p)) {
            return refuseFlatly(NO_SUCH);
        }
        if (now.pool.held[p] == 0) {
            return refuseFlatly(NOT_SO);
        }
        history.keep(now);
        now.pool.held[p] = 0;
        return agree();
    }

    public int poke(int data, int i, int v) {
        if (noData(data) || noCell(i)) {
            return refuse(NO_SUCH);
        }
        if (v < 0 || v > CELL_MOST) {
            return refuse(BAD_NUMBER);
        }
        history.keep(now);
        int was = now.cells[data * CELLS + i];
        now.cells[data * CELLS + i] = v;
        now.measure(data, cut);
        return answer(was);
    }

    public int writeBack(int n) {
        if (!swapTold) {
            return refuse(NO_SUCH);
        }
        if (n < 1 || n > PAGE_ROOM) {
            return refuse(BAD_NUMBER);
        }
        history.keep(now);
        return answer(now.pool.writeColdest(n));
    }

    public int limit(int n) {
        if (!swapTold) {
            return refuse(NO_SUCH);
        }
        if (noLimit(n)) {
            return refuse(BAD_NUMBER);
        }
        history.keep(now);
        return answer(now.pool.changeLimit(n));
    }

    public int compact() {
        if (!swapTold) {
            return refuse(NO_SUCH);
        }
        history.keep(now);
        return answer(now.pool.compactAll());
    }

    public int run(int i, int n) {
        if (noOp(i)) {
            return refuse(NO_SUCH);
        }
        if (n < 1 || n > OP_ROOM) {
            return refuse(BAD_NUMBER);
        }
        history.keep(now);
        int end = Math.min(script.opCount, i + n);
        for (int k = i; k < end; k++) {
            perform(now.pool, k);
        }
        return answer(end - i);
    }

    public boolean undo() {
        if (!swapTold || !history.takeBack(now)) {
            return refuseFlatly(NO_SUCH);
        }
        return agree();
    }

    // ---- what is told

    public int onDisk(int i) throws NoSuchElementException {
        int before = 0;
        for (int p = 0; p < PAGE_ROOM; p++) {
            if (now.pool.places[p] == ON_DISK) {
                if (before == i) {
                    return p;
                }
                before++;
            }
        }
        throw new NoSuchElementException("no such page on disk");
    }

    public int size(int what) {
        switch (what) {
            case 0: return tapeLength;
            case 1: return history.kept;
            default: return NONE;
        }
    }

    public int trouble() {
        return troubleNumber;
    }

    // ---- answers and refusals

    private int answer(int value) {
        troubleNumber = 0;
        return value;
    }

    private int refuse(int number) {
        troubleNumber = number;
        return NONE;
    }

    private boolean agree() {
        troubleNumber = 0;
        return true;
    }

    private boolean refuseFlatly(int number) {
        troubleNumber = number;
        return false;
    }

    private boolean noData(int data) {
        return !swapTold || data < 0 || data >= script.dataCount;
    }

    private boolean noOp(int i) {
        return !swapTold || i < 0 || i >= script.opCount;
    }

    private boolean noPage(int p) {
        return !swapTold || p < 0 || p >= PAGE_ROOM;
    }

    private boolean noZone(int z) {
        return !swapTold || !now.pool.zones.has(z);
    }

    private boolean noClass(int s) {
        return !swapTold || !Classes.isClass(s, now.pool.classStep);
    }

    private static boolean noCell(int i) {
        return i < 0 || i >= CELLS;
    }

    private static boolean noSize(int size) {
        return size < SIZE_LEAST || size > SIZE_MOST;
    }

    private static boolean noLimit(int limit) {
        return limit < 1 || limit > LIMIT_MOST;
    }

    // ---- what several calls share

    private void feedNumber(int number) {
        for (int shift = 24; shift >= 0 && tapeLength < TAPE_ROOM; shift -= 8) {
            tape[tapeLength] = (number >>> shift) & 255;
            tapeLength++;
        }
    }

    private void cutData(int data) {
        cut.measure(now.cells, data * CELLS);
        cut.choosePieces();
    }

    private int rankOf(int data) {
        int rank = 0;
        for (int other = 0; other < script.dataCount; other++) {
            int size = now.sizes[other];
            if (size < now.sizes[data] || (size == now.sizes[data] && other < data)) {
                rank++;
            }
        }
        return rank;
    }

    private void thinkOfPool(boolean compacted) {
        thought.copyFrom(now.pool);
        if (compacted) {
            thought.compactAll();
        }
    }

    private void thinkOfStoring(int p, int data) {
        thought.copyFrom(now.pool);
        thought.storePage(p, now.cells, data * CELLS, now.sizes[data]);
    }

    private void foretell(int limit, int step) {
        thought.begin(limit, step, script.bigSize);
        for (int k = 0; k < script.opCount; k++) {
            perform(thought, k);
        }
    }

    private void perform(Pool pool, int k) {
        int p = script.opPages[k];
        int data = script.opData[k];
        if (script.opKinds[k] == OP_LOAD) {
            pool.loadPage(p);
        } else if (script.opKinds[k] == OP_DROP) {
            pool.dropPage(p);
        } else if (!noData(data)) {
            pool.storePage(p, now.cells, data * CELLS, now.sizes[data]);
        }
    }

    /** What a text tells. */
    private static final class Script {
        int frameLimit = 1;
        int classStep = 1;
        int bigSize = SIZE_MOST;
        int dataCount;
        int opCount;
        final int[] cells = new int[DATA_ROOM * CELLS];
        final int[] opKinds = new int[OP_ROOM];
        final int[] opPages = new int[OP_ROOM];
        final int[] opData = new int[OP_ROOM];

        void clear() {
            dataCount = 0;
            opCount = 0;
        }

        void addOp(int kind, int p, int data) {
            if (opCount < OP_ROOM) {
                opKinds[opCount] = kind;
                opPages[opCount] = p;
                opData[opCount] = data;
                opCount++;
            }
        }

        /** Puts cells into the data that are being told, behind those that they have. */
        void addCells(int value, int had, int times) {
            int end = Math.min(CELLS, had + times);
            for (int i = had; i < end && dataCount < DATA_ROOM; i++) {
                cells[dataCount * CELLS + i] = value;
            }
        }
    }

    /** Reads a text from the left on, a token at a time, till its end or its first fault. */
    private static final class Reader {
        private static final int WORD_MOST = 6;
        private static final int DIGITS_MOST = 3;

        private static final int END = 0;
        private static final int WORD = 1;
        private static final int WHOLE = 2;
        private static final int SEMICOLON = 3;
        private static final int COMMA = 4;
        private static final int BLANK = 5;
        private static final int NO_TOKEN = 6;

        private static final int FORM = 1;
        private static final int BOUNDS = 2;
        private static final int AGAIN = 3;
        private static final int MANY = 4;
        private static final int LACKS = 5;
        private static final int WRONG_CELLS = 6;

        private int[] bytes = new int[0];
        private int end;
        private int at;
        private int start;
        private int kind;
        private boolean begun;
        private int found;
        private int foundAt;
        private Script told = new Script();

        /** The number of the first fault, 0 without one. */
        int readScript(int[] text, int length) {
            bytes = text;
            end = Math.min(length, text.length);
            told.clear();
            at = 0;
            begun = false;
            found = 0;
            advance();
            boolean more = readLine();
            for (int lines = 1; more && kind == SEMICOLON && lines <= TAPE_ROOM; lines++) {
                advance();
                more = readLine();
            }
            return found;
        }

        /** Gives the script that was read for one that may be written over. */
        Script trade(Script former) {
            Script read = told;
            told = former;
            return read;
        }

        /** Where the first fault is. */
        int place() {
            return foundAt;
        }

        private boolean readLine() {
            if (isWord("swap")) {
                return begun ? fail(AGAIN) : readSettings();
            }
            if (isWord("data")) {
                return mayCome(told.dataCount, DATA_ROOM) && readData();
            }
            int op = opOfWord();
            if (op < 0) {
                return fail(FORM);
            }
            return mayCome(told.opCount, OP_ROOM) && readOp(op);
        }

        private boolean mayCome(int had, int room) {
            if (had >= room) {
                return fail(MANY);
            }
            return begun || fail(LACKS);
        }

        private int opOfWord() {
            if (isWord("store")) {
                return OP_STORE;
            }
            if (isWord("load")) {
                return OP_LOAD;
            }
            return isWord("drop") ? OP_DROP : NONE;
        }

        private boolean readSettings() {
            advance();
            int frames = takeWord("frames") ? takeWhole(1, LIMIT_MOST) : NONE;
            if (frames < 0) {
                return false;
            }
            int step = takeWord("step") ? takeWhole(1, STEP_MOST) : NONE;
            if (step < 0) {
                return false;
            }
            int big = takeWord("big") ? takeWhole(BIG_LEAST, SIZE_MOST) : NONE;
            if (big < 0) {
                return false;
            }
            told.frameLimit = frames;
            told.classStep = step;
            told.bigSize = big;
            begun = true;
            return isLineEnd() || fail(FORM);
        }

        private boolean readOp(int op) {
            advance();
            int p = takeWhole(0, PAGE_ROOM - 1);
            if (p < 0) {
                return false;
            }
            int data = NOTHING;
            if (op == OP_STORE) {
                data = takeWhole(0, told.dataCount - 1);
                if (data < 0) {
                    return false;
                }
            }
            if (!isLineEnd()) {
                return fail(FORM);
            }
            told.addOp(op, p, data);
            return true;
        }

        private boolean readData() {
            advance();
            int had = readCells(0);
            // Each round tells a cell or more, so that there are no more rounds than cells.
            for (int rounds = 0; had > 0 && kind == COMMA && rounds <= CELLS; rounds++) {
                advance();
                had = readCells(had);
            }
            if (had <= 0) {
                return false;
            }
            if (!isLineEnd()) {
                return fail(FORM);
            }
            if (had < CELLS) {
                return fail(WRONG_CELLS);
            }
            told.dataCount++;
            return true;
        }

        /** How many cells there are with those that are told here; 0 behind a fault. */
        private int readCells(int had) {
            int whole = start;
            int cell = takeWhole(0, CELL_MOST);
            if (cell < 0) {
                return 0;
            }
            if (had >= CELLS) {
                return tooMany(whole);
            }
            int times = 1;
            if (isWord("x")) {
                advance();
                whole = start;
                times = takeWhole(1, CELLS);
                if (times < 0) {
                    return 0;
                }
            }
            if (had + times > CELLS) {
                return tooMany(whole);
            }
            told.addCells(cell, had, times);
            return had + times;
        }

        private int tooMany(int whole) {
            found = WRONG_CELLS;
            foundAt = whole;
            return 0;
        }

        private boolean takeWord(String text) {
            if (!isWord(text)) {
                return fail(FORM);
            }
            advance();
            return true;
        }

        /** The number that the token tells; NONE behind a fault. */
        private int takeWhole(int least, int most) {
            if (kind != WHOLE) {
                fail(FORM);
                return NONE;
            }
            int number = 0;
            for (int i = start; i < at; i++) {
                number = number * 10 + byteAt(i) - '0';
            }
            if (number < least || number > most) {
                fail(BOUNDS);
                return NONE;
            }
            advance();
            return number;
        }

        private boolean fail(int number) {
            found = number;
            foundAt = start;
            return false;
        }

        private boolean isLineEnd() {
            return kind == SEMICOLON || kind == END;
        }

        private boolean isWord(String text) {
            if (kind != WORD || at - start != text.length()) {
                return false;
            }
            for (int i = 0; i < text.length(); i++) {
                if (byteAt(start + i) != text.charAt(i)) {
                    return false;
                }
            }
            return true;
        }

        private void advance() {
            while (at < end && kindAt(at) == BLANK) {
                at++;
            }
            start = at;
            kind = kindAt(at);
            boolean spans = kind == WORD || kind == WHOLE;
            while (at < end && (at == start || (spans && kindAt(at) == kind))) {
                at++;
            }
            // Of more letters or digits that stand together not one begins a token.
            if (spans && at - start > (kind == WORD ? WORD_MOST : DIGITS_MOST)) {
                kind = NO_TOKEN;
            }
        }

        /** The kind of token that a byte can begin. */
        private int kindAt(int i) {
            if (i < 0 || i >= end || i >= bytes.length) {
                return END;
            }
            int sign = bytes[i];
            if (sign >= 'a' && sign <= 'z') {
                return WORD;
            }
            if (sign >= '0' && sign <= '9') {
                return WHOLE;
            }
            switch (sign) {
                case ' ': return BLANK;
                case ';': return SEMICOLON;
                case ',': return COMMA;
                default: return NO_TOKEN;
            }
        }

        /** A byte of the text; NONE behind its end. */
        private int byteAt(int i) {
            return i >= 0 && i < bytes.length ? bytes[i] : NONE;
        }
    }

    /** Cuts sixteen cells into the cheapest pieces. */
    private static final class Cut {
        private static final int RUN = 0;
        private static final int COPY = 1;
        private static final int PLAIN = 2;
        private static final int RUN_COST = 2;
        private static final int COPY_COST = 3;
        private static final int PIECE_MOST = 8;
        private static final int DISTANCE_LEAST = 2;
        // Dearer than all cells in plain pieces, so that it is never chosen.
        private static final int NO_COST = 99;

        private final int[] row = new int[CELLS];
        final int[] costs = new int[CELLS + 1];
        final int[] counts = new int[CELLS + 1];
        final int[] sorts = new int[CELLS];
        final int[] firsts = new int[CELLS];
        final int[] lengths = new int[CELLS];
        final int[] distances = new int[CELLS];
        int pieceCount;

        /** Only a run of all the cells costs so little. */
        static boolean isWordSize(int size) {
            return size == RUN_COST;
        }

        /** For each cell, what those from it on cost at least, and in how few pieces. */
        void measure(int[] cells, int from) {
            if (from < 0 || from > cells.length - CELLS) {
                return;
            }
            System.arraycopy(cells, from, row, 0, CELLS);
            for (int i = CELLS - 1; i >= 0; i--) {
                measureFrom(i);
            }
        }

        /** Of the row measured last. */
        void choosePieces() {
            pieceCount = 0;
            int i = 0;
            for (int rounds = 0; i < CELLS && rounds < CELLS; rounds++) {
                choosePiece(i);
                i += lengths[rounds];
            }
        }

        private void measureFrom(int i) {
            int alike = alikeFrom(i);
            int copied = longestCopy(i);
            costs[i] = NO_COST;
            counts[i] = CELLS;
            for (int length = 1; i + length <= CELLS; length++) {
                int cost = leastCost(length, alike, copied) + costs[i + length];
                int count = 1 + counts[i + length];
                if (cost < costs[i] || (cost == costs[i] && count < counts[i])) {
                    costs[i] = cost;
                    counts[i] = count;
                }
            }
        }

        private static int leastCost(int length, int alike, int copied) {
            if (length >= 2 && length <= alike) {
                return RUN_COST;
            }
            if (length >= 2 && length <= copied) {
                return COPY_COST;
            }
            return length <= PIECE_MOST ? length + 1 : NO_COST;
        }

        private void choosePiece(int i) {
            int length = longestFit(i, alikeFrom(i), RUN_COST);
            if (length > 0) {
                addPiece(RUN, i, length, 0);
                return;
            }
            length = longestFit(i, longestCopy(i), COPY_COST);
            if (length > 0) {
                addPiece(COPY, i, length, leastDistance(i, length));
                return;
            }
            addPiece(PLAIN, i, longestPlain(i), 0);
        }

        private void addPiece(int sort, int first, int length, int distance) {
            if (pieceCount < CELLS) {
                sorts[pieceCount] = sort;
                firsts[pieceCount] = first;
                lengths[pieceCount] = length;
                distances[pieceCount] = distance;
                pieceCount++;
            }
        }

        /** The longest piece of a cost behind which the rest can be cut as cheaply as can be; 0 without one. */
        private int longestFit(int i, int most, int cost) {
            for (int length = Math.min(most, CELLS - i); length >= 2; length--) {
                if (cost + costs[i + length] == costs[i]) {
                    return length;
                }
            }
            return 0;
        }

        private int longestPlain(int i) {
            for (int length = Math.min(PIECE_MOST, CELLS - i); length >= 2; length--) {
                if (length + 1 + costs[i + length] == costs[i]) {
                    return length;
                }
            }
            return 1;
        }

        private int alikeFrom(int i) {
            int end = i + 1;
            while (end < CELLS && row[end] == row[i]) {
                end++;
            }
            return end - i;
        }

        private int longestCopy(int i) {
            int longest = 0;
            for (int d = DISTANCE_LEAST; d <= i; d++) {
                longest = Math.max(longest, copiedFrom(i, d));
            }
            return longest;
        }

        private int leastDistance(int i, int length) {
            for (int d = DISTANCE_LEAST; d <= i; d++) {
                if (copiedFrom(i, d) >= length) {
                    return d;
                }
            }
            return 0;
        }

        /** How many cells are as those d ahead of them, as far as one copy goes. */
        private int copiedFrom(int i, int d) {
            int length = 0;
            while (length < PIECE_MOST && i + length < CELLS && row[i + length] == row[i + length - d]) {
                length++;
            }
            return length;
        }
    }

    /** What follows from a size class alone. */
    private static final class Classes {
        private static final int FRAMES_MOST = 4;

        static boolean isClass(int s, int step) {
            return s >= 1 && s <= CLASS_MOST && step >= 1 && s % step == 0;
        }

        static int homeOf(int size, int step) {
            return step >= 1 ? (size + step - 1) / step * step : size;
        }

        /** How many frames a zone has. */
        static int framesOf(int s) {
            if (s < 1) {
                return 0;
            }
            int best = 1;
            for (int k = 2; k <= FRAMES_MOST; k++) {
                // Parts of unlike wholes, compared crosswise.
                if (UNITS * k % s * best < UNITS * best % s * k) {
                    best = k;
                }
            }
            return best;
        }

        static int slotsOf(int s) {
            return s < 1 ? 0 : UNITS * framesOf(s) / s;
        }

        static int spareOf(int s) {
            return s < 1 ? 0 : UNITS * framesOf(s) % s;
        }
    }

    /** The zones of a pool, and which page is in which slot of them. */
    private static final class Zones {
        int frames;
        final int[] classes = new int[ZONE_ROOM];
        final int[] spans = new int[ZONE_ROOM];
        final int[] rooms = new int[ZONE_ROOM];
        final int[] counts = new int[ZONE_ROOM];
        final int[] pages = new int[ZONE_ROOM * SLOT_ROOM];

        void clear() {
            frames = 0;
            Arrays.fill(classes, 0);
            Arrays.fill(spans, 0);
            Arrays.fill(rooms, 0);
            Arrays.fill(counts, 0);
            Arrays.fill(pages, NOTHING);
        }

        void copyFrom(Zones other) {
            frames = other.frames;
            System.arraycopy(other.classes, 0, classes, 0, ZONE_ROOM);
            System.arraycopy(other.spans, 0, spans, 0, ZONE_ROOM);
            System.arraycopy(other.rooms, 0, rooms, 0, ZONE_ROOM);
            System.arraycopy(other.counts, 0, counts, 0, ZONE_ROOM);
            System.arraycopy(other.pages, 0, pages, 0, ZONE_ROOM * SLOT_ROOM);
        }

        boolean has(int z) {
            return z >= 0 && z < ZONE_ROOM && classes[z] > 0;
        }

        int countAll() {
            int count = 0;
            for (int z = 0; z < ZONE_ROOM; z++) {
                count += classes[z] > 0 ? 1 : 0;
            }
            return count;
        }

        int countOf(int s) {
            int count = 0;
            for (int z = 0; z < ZONE_ROOM; z++) {
                count += classes[z] == s ? 1 : 0;
            }
            return count;
        }

        int pagesOf(int s) {
            int count = 0;
            for (int z = 0; z < ZONE_ROOM; z++) {
                count += classes[z] == s ? counts[z] : 0;
            }
            return count;
        }

        /** The least number that no zone has; NONE without one. */
        int freeNumber() {
            for (int z = 0; z < ZONE_ROOM; z++) {
                if (classes[z] == 0) {
                    return z;
                }
            }
            return NONE;
        }

        /** Of the zones of a class with a free slot that of most pages, the first of several; NONE without one. */
        int fullest(int s, int except) {
            int best = NONE;
            for (int z = 0; z < ZONE_ROOM; z++) {
                if (z != except && hasRoom(z, s) && (best < 0 || counts[z] > counts[best])) {
                    best = z;
                }
            }
            return best;
        }

        /** Of the zones of a class with a free slot that of fewest pages, the last of several; NONE without one. */
        int emptiest(int s) {
            int best = NONE;
            for (int z = 0; z < ZONE_ROOM; z++) {
                if (hasRoom(z, s) && (best < 0 || counts[z] <= counts[best])) {
                    best = z;
                }
            }
            return best;
        }

        int lastPage(int z) {
            for (int i = SLOT_ROOM - 1; i >= 0 && has(z); i--) {
                if (pages[z * SLOT_ROOM + i] >= 0) {
                    return pages[z * SLOT_ROOM + i];
                }
            }
            return NONE;
        }

        /** The slot into which the page came, the first free one. */
        int putIn(int z, int s, int p) {
            if (z < 0 || z >= ZONE_ROOM) {
                return NONE;
            }
            if (classes[z] == 0) {
                classes[z] = s;
                spans[z] = Classes.framesOf(s);
                rooms[z] = Classes.slotsOf(s);
                frames += spans[z];
            }
            for (int i = 0; i < rooms[z] && i < SLOT_ROOM; i++) {
                if (pages[z * SLOT_ROOM + i] < 0) {
                    pages[z * SLOT_ROOM + i] = p;
                    counts[z]++;
                    return i;
                }
            }
            return NONE;
        }

        void takeOut(int z, int i) {
            if (z < 0 || z >= ZONE_ROOM || i < 0 || i >= rooms[z] || i >= SLOT_ROOM) {
                return;
            }
            pages[z * SLOT_ROOM + i] = NOTHING;
            counts[z]--;
            if (counts[z] == 0) {
                frames -= spans[z];
                classes[z] = 0;
                spans[z] = 0;
                rooms[z] = 0;
            }
        }

        private boolean hasRoom(int z, int s) {
            return classes[z] == s && counts[z] < rooms[z];
        }
    }

    /** Where all pages are, how old those of the pool are, and what happens to them. */
    private static final class Pool {
        int frameLimit = 1;
        int classStep = 1;
        int bigSize = SIZE_MOST;
        final Zones zones = new Zones();
        final int[] places = new int[PAGE_ROOM];
        final int[] sizes = new int[PAGE_ROOM];
        final int[] zoneOf = new int[PAGE_ROOM];
        final int[] slotOf = new int[PAGE_ROOM];
        final int[] held = new int[PAGE_ROOM];
        final int[] cells = new int[PAGE_ROOM * CELLS];
        final int[] ages = new int[PAGE_ROOM];
        int ageCount;
        final int[] totals = new int[TOTAL_COUNT];
        // The pages pushed by the latest storing or change of the limit.
        final int[] gone = new int[PAGE_ROOM];
        int goneCount;

        /** From nothing at all. What cells and sizes were stays, as no page that is nowhere is asked for them. */
        void begin(int limit, int step, int big) {
            frameLimit = limit;
            classStep = step;
            bigSize = big;
            zones.clear();
            Arrays.fill(places, NOWHERE);
            Arrays.fill(held, 0);
            ageCount = 0;
            Arrays.fill(totals, 0);
            goneCount = 0;
        }

        void copyFrom(Pool other) {
            frameLimit = other.frameLimit;
            classStep = other.classStep;
            bigSize = other.bigSize;
            zones.copyFrom(other.zones);
            System.arraycopy(other.places, 0, places, 0, PAGE_ROOM);
            System.arraycopy(other.sizes, 0, sizes, 0, PAGE_ROOM);
            System.arraycopy(other.zoneOf, 0, zoneOf, 0, PAGE_ROOM);
            System.arraycopy(other.slotOf, 0, slotOf, 0, PAGE_ROOM);
            System.arraycopy(other.held, 0, held, 0, PAGE_ROOM);
            System.arraycopy(other.cells, 0, cells, 0, PAGE_ROOM * CELLS);
            System.arraycopy(other.ages, 0, ages, 0, PAGE_ROOM);
            ageCount = other.ageCount;
            System.arraycopy(other.totals, 0, totals, 0, TOTAL_COUNT);
            goneCount = 0;
        }

        int countAt(int place) {
            int count = 0;
            for (int p = 0; p < PAGE_ROOM; p++) {
                count += places[p] == place ? 1 : 0;
            }
            return count;
        }

        int unitsTaken() {
            int units = 0;
            for (int p = 0; p < PAGE_ROOM; p++) {
                units += places[p] == IN_POOL ? sizes[p] : 0;
            }
            return units;
        }

        boolean likeCells(int p, int q) {
            if (!isPage(p) || !isPage(q)) {
                return false;
            }
            for (int i = 0; i < CELLS; i++) {
                if (cells[p * CELLS + i] != cells[q * CELLS + i]) {
                    return false;
                }
            }
            return true;
        }

        /** How many pages of the pool are colder than p; NONE if it isn't there. */
        int ageOf(int p) {
            for (int i = 0; i < ageCount && i < PAGE_ROOM; i++) {
                if (ages[i] == p) {
                    return i;
                }
            }
            return NONE;
        }

        int coldestOf(int s) {
            for (int i = 0; i < ageCount && i < PAGE_ROOM; i++) {
                if (Classes.homeOf(sizeOf(ages[i]), classStep) == s) {
                    return ages[i];
                }
            }
            return NOTHING;
        }

        /** The coldest page that isn't held; NONE without one. */
        int coldestLoose() {
            for (int i = 0; i < ageCount && i < PAGE_ROOM; i++) {
                int p = ages[i];
                if (isPage(p) && held[p] == 0) {
                    return p;
                }
            }
            return NONE;
        }

        /** The zone for a page of a class, one that is there or one to come; NOTHING if there is no room. */
        int zoneFor(int s) {
            int z = zones.fullest(s, NONE);
            if (z >= 0) {
                return z;
            }
            z = zones.freeNumber();
            return z >= 0 && zones.frames + Classes.framesOf(s) <= frameLimit ? z : NOTHING;
        }

        /** What the pages of the pool would take by another step, in as few zones as there can be. */
        int framesBy(int step) {
            int frames = 0;
            for (int s = 1; s <= CLASS_MOST; s++) {
                int slots = Classes.slotsOf(s);
                if (slots > 0) {
                    frames += (pagesAtHome(s, step) + slots - 1) / slots * Classes.framesOf(s);
                }
            }
            return frames;
        }

        void storePage(int p, int[] source, int from, int size) {
            if (!isPage(p) || from < 0 || from > source.length - CELLS) {
                return;
            }
            goneCount = 0;
            dropPage(p);
            System.arraycopy(source, from, cells, p * CELLS, CELLS);
            sizes[p] = size;
            if (Cut.isWordSize(size)) {
                places[p] = AS_WORD;
            } else if (size > bigSize) {
                writeOut(p);
            } else {
                settle(p);
            }
        }

        void loadPage(int p) {
            if (!isPage(p)) {
                return;
            }
            if (places[p] == IN_POOL) {
                leaveAges(p);
                addYoungest(p);
            } else if (places[p] == ON_DISK) {
                totals[READ]++;
            }
        }

        void dropPage(int p) {
            if (!isPage(p)) {
                return;
            }
            if (places[p] == IN_POOL) {
                leavePool(p);
            }
            places[p] = NOWHERE;
        }

        /** Writes out up to n of the coldest pages: how many went. */
        int writeColdest(int n) {
            for (int went = 0; went < n; went++) {
                int p = coldestLoose();
                if (p < 0) {
                    return went;
                }
                writeOut(p);
            }
            return n;
        }

        /** Pushes pages till the pool keeps to the limit, or only held ones are left: how many went. */
        int changeLimit(int limit) {
            frameLimit = limit;
            goneCount = 0;
            for (int rounds = 0; rounds < PAGE_ROOM && zones.frames > frameLimit; rounds++) {
                int p = coldestLoose();
                if (p < 0) {
                    break;
                }
                writeOut(p);
                notePushed(p);
            }
            return goneCount;
        }

        /** Empties zones into fuller ones: how many frames that gains. */
        int compactAll() {
            int before = zones.frames;
            for (int s = 1; s <= CLASS_MOST; s++) {
                compactClass(s);
            }
            return before - zones.frames;
        }

        private void compactClass(int s) {
            // A zone that begins to give gives all it has, or ends as the only one that isn't full.
            for (int moves = 0; moves < ZONE_ROOM * SLOT_ROOM; moves++) {
                int giver = zones.emptiest(s);
                int taker = zones.fullest(s, giver);
                int p = giver >= 0 && taker >= 0 ? zones.lastPage(giver) : NONE;
                if (!isPage(p)) {
                    return;
                }
                zones.takeOut(zoneOf[p], slotOf[p]);
                zoneOf[p] = taker;
                slotOf[p] = zones.putIn(taker, s, p);
                totals[MOVED]++;
            }
        }

        private void settle(int p) {
            int s = Classes.homeOf(sizes[p], classStep);
            // Each round but the last pushes one of the other pages.
            for (int rounds = 0; rounds <= PAGE_ROOM; rounds++) {
                int z = zoneFor(s);
                if (z >= 0) {
                    zoneOf[p] = z;
                    slotOf[p] = zones.putIn(z, s, p);
                    places[p] = IN_POOL;
                    addYoungest(p);
                    return;
                }
                int cold = coldestLoose();
                if (cold < 0) {
                    break;
                }
                writeOut(cold);
                notePushed(cold);
            }
            writeOut(p);
            notePushed(p);
        }

        private void writeOut(int p) {
            if (places[p] == IN_POOL) {
                leavePool(p);
            }
            places[p] = ON_DISK;
            totals[WRITTEN]++;
        }

        private void notePushed(int p) {
            totals[PUSHED]++;
            if (goneCount < PAGE_ROOM) {
                gone[goneCount] = p;
                goneCount++;
            }
        }

        private void leavePool(int p) {
            leaveAges(p);
            zones.takeOut(zoneOf[p], slotOf[p]);
            held[p] = 0;
        }

        private void leaveAges(int p) {
            int left = 0;
            for (int i = 0; i < ageCount && i < PAGE_ROOM; i++) {
                if (ages[i] != p) {
                    ages[left] = ages[i];
                    left++;
                }
            }
            ageCount = left;
        }

        private void addYoungest(int p) {
            if (ageCount < PAGE_ROOM) {
                ages[ageCount] = p;
                ageCount++;
            }
        }

        private int pagesAtHome(int s, int step) {
            int count = 0;
            for (int p = 0; p < PAGE_ROOM; p++) {
                if (places[p] == IN_POOL && Classes.homeOf(sizes[p], step) == s) {
                    count++;
                }
            }
            return count;
        }

        private int sizeOf(int p) {
            return isPage(p) ? sizes[p] : 0;
        }

        private static boolean isPage(int p) {
            return p >= 0 && p < PAGE_ROOM;
        }
    }

    /** All that acts change, and undoing brings back. */
    private static final class State {
        final int[] cells = new int[DATA_ROOM * CELLS];
        final int[] sizes = new int[DATA_ROOM];
        final Pool pool = new Pool();

        void begin(Script script, Cut cut) {
            System.arraycopy(script.cells, 0, cells, 0, DATA_ROOM * CELLS);
            for (int data = 0; data < script.dataCount; data++) {
                measure(data, cut);
            }
            pool.begin(script.frameLimit, script.classStep, script.bigSize);
        }

        /** Sizes are kept, as what is foretold asks for them again and again. */
        void measure(int data, Cut cut) {
            if (data >= 0 && data < DATA_ROOM) {
                cut.measure(cells, data * CELLS);
                sizes[data] = cut.costs[0];
            }
        }

        void copyFrom(State other) {
            System.arraycopy(other.cells, 0, cells, 0, DATA_ROOM * CELLS);
            System.arraycopy(other.sizes, 0, sizes, 0, DATA_ROOM);
            pool.copyFrom(other.pool);
        }
    }

    /** The states ahead of the latest acts, in a ring that is used again. */
    private static final class History {
        private final State[] ring = new State[UNDO_ROOM];
        private int end;
        int kept;

        void forget() {
            kept = 0;
        }

        void keep(State state) {
            if (end >= UNDO_ROOM) {
                end = 0;
            }
            // Made when it is first needed, so that an object of few acts stays small.
            if (ring[end] == null) {
                ring[end] = new State();
            }
            ring[end].copyFrom(state);
            end++;
            kept = Math.min(UNDO_ROOM, kept + 1);
        }

        /** False if there is nothing to be undone. */
        boolean takeBack(State state) {
            if (end <= 0) {
                end = UNDO_ROOM;
            }
            State former = ring[end - 1];
            if (kept <= 0 || former == null) {
                return false;
            }
            state.copyFrom(former);
            end--;
            kept--;
            return true;
        }
    }
}
