import java.util.NoSuchElementException;

/** A file of records of any length that keep their numbers; DOC.md is its document. */
public final class SlotFile {
    public static final int NONE = -1;

    private static final int MOST_CALLS = 512;
    private static final int PAGES = 96;
    private static final int SLOTS = 32;
    private static final int RECORDS = PAGES * SLOTS;

    private static final int MOST_LENGTH = 1200;
    private static final int MOST_SEED = 255;
    private static final int MOST_SHORT = 100;

    private static final int CELL_PAGE_BYTES = 248;
    private static final int CHAIN_PAGE_BYTES = 240;
    private static final int CLASS_BYTES = 31;
    private static final int CLASSES = CELL_PAGE_BYTES / CLASS_BYTES + 1;
    private static final int SLOT_BYTES = 4;
    private static final int HOME_NUMBER_BYTES = 4;
    private static final int LONG_BYTES = 9;
    private static final int STUB_BYTES = 5;
    private static final int LEAST_CELL_BYTES = 5;

    // What a page is: the numbers are those that the face answers.
    private static final int FREE = 0;
    private static final int CELLS = 1;
    private static final int CHAIN = 2;

    // What a slot has: the numbers are those that the face answers.
    private static final int NOTHING = 0;
    private static final int HOME = 1;
    private static final int STUB = 2;
    private static final int AWAY = 3;

    private final Store live;
    private final Store synced;
    private final Log log;
    private int crashes;

    public SlotFile() {
        live = new Store();
        synced = new Store();
        log = new Log();
        crashes = 0;
    }

    public int insert(int length, int seed) throws IllegalArgumentException {
        checkValue(length, seed);
        int record = live.addRecord(length, seed);
        if (record != NONE) {
            noteChange(NONE, length, seed);
        }
        return record;
    }

    public boolean update(int record, int length, int seed) throws NoSuchElementException, IllegalArgumentException {
        checkRecord(record);
        checkValue(length, seed);
        boolean changed = live.changeRecord(record, length, seed);
        if (changed) {
            noteChange(record, length, seed);
        }
        return changed;
    }

    public int delete(int record) throws NoSuchElementException {
        checkRecord(record);
        int length = live.lengthOf(record);
        live.removeRecord(record);
        noteChange(record, NONE, NONE);
        return length;
    }

    public int length(int record) {
        return live.hasRecord(record) ? live.lengthOf(record) : NONE;
    }

    public int byteAt(int record, int i) throws NoSuchElementException {
        checkRecord(record);
        if (i < 0 || i >= live.lengthOf(record)) {
            return NONE;
        }
        return (live.seedOf(record) + 7 * i + i / 16) % 256;
    }

    public int where(int record, int what) throws NoSuchElementException, IllegalArgumentException {
        checkRecord(record);
        switch (what) {
            case 0:
                return live.valueCell(record) / SLOTS;
            case 1:
                return live.valueCell(record) % SLOTS;
            case 2:
                return chainPages(live.lengthOf(record));
            case 3:
                return live.chainOf(record);
            default:
                throw new IllegalArgumentException("what is not 0 .. 3");
        }
    }

    public int next(int record) {
        return record >= RECORDS ? NONE : live.firstRecordFrom(Math.max(record, NONE) + 1);
    }

    public int page(int page, int what) throws IllegalArgumentException {
        checkPage(page);
        Page asked = live.pages[page];
        switch (what) {
            case 0:
                return asked.kind;
            case 1:
                return asked.kind == CELLS ? asked.slots : NONE;
            case 2:
                return asked.kind == CELLS ? asked.cells : NONE;
            case 3:
                return asked.kind == CELLS ? asked.room() : NONE;
            case 4:
                return asked.kind == CELLS ? asked.end : NONE;
            case 5:
                return asked.kind == CELLS ? asked.room() / CLASS_BYTES : NONE;
            case 6:
                return asked.kind == CELLS ? asked.stubs : NONE;
            case 7:
                return asked.kind == CHAIN ? asked.chainNext : NONE;
            case 8:
                return asked.kind == CHAIN ? asked.chainBytes : NONE;
            default:
                throw new IllegalArgumentException("what is not 0 .. 8");
        }
    }

    public int slot(int page, int slot) throws IllegalArgumentException {
        checkPage(page);
        if (slot < 0) {
            throw new IllegalArgumentException("slot is below 0");
        }
        Page asked = live.pages[page];
        return slot < asked.slots ? asked.kinds[slot] : NONE;
    }

    public int sync() {
        int changes = log.size;
        settle();
        return changes;
    }

    public int crash(int k) throws IllegalArgumentException {
        if (k < 0 || k > log.size) {
            throw new IllegalArgumentException("there are not so many changes");
        }
        int lost = log.size - k;
        // The synced pages go on, not the live ones: so compactings are not counted a second time.
        log.redo(synced, k);
        live.copyFrom(synced);
        log.size = 0;
        crashes++;
        return lost;
    }

    public int total(int what) throws IllegalArgumentException {
        switch (what) {
            case 0:
                return live.cellCount() - live.stubCount();
            case 1:
                return live.pagesThatAre(FREE);
            case 2:
                return live.pagesThatAre(CELLS);
            case 3:
                return live.pagesThatAre(CHAIN);
            case 4:
                return live.stubCount();
            case 5:
                return log.size;
            case 6:
                return live.compactingCount();
            case 7:
                return crashes;
            default:
                throw new IllegalArgumentException("what is not 0 .. 7");
        }
    }

    private void noteChange(int record, int length, int seed) {
        if (log.size < MOST_CALLS) {
            log.add(record, length, seed);
        } else {
            // Only behind the 512th call, where answers are free: the log must not grow.
            settle();
        }
    }

    private void settle() {
        synced.copyFrom(live);
        log.size = 0;
    }

    private void checkRecord(int record) throws NoSuchElementException {
        if (!live.hasRecord(record)) {
            throw new NoSuchElementException("there is no such record");
        }
    }

    private static void checkValue(int length, int seed) throws IllegalArgumentException {
        if (length < 0 || length > MOST_LENGTH || seed < 0 || seed > MOST_SEED) {
            throw new IllegalArgumentException("length is not 0 .. 1200 or seed not 0 .. 255");
        }
    }

    private static void checkPage(int page) throws IllegalArgumentException {
        if (page < 0 || page >= PAGES) {
            throw new IllegalArgumentException("page is not 0 .. 95");
        }
    }

    private static int cellBytes(int kind, int length) {
        if (kind == STUB) {
            return STUB_BYTES;
        }
        int atHome = length > MOST_SHORT ? LONG_BYTES : length + 1;
        int bytes = kind == AWAY ? atHome + HOME_NUMBER_BYTES : atHome;
        return bytes < LEAST_CELL_BYTES ? LEAST_CELL_BYTES : bytes;
    }

    private static int chainPages(int length) {
        return length > MOST_SHORT ? (length + CHAIN_PAGE_BYTES - 1) / CHAIN_PAGE_BYTES : 0;
    }

    /** The changes since the latest sync, so that a crash can make the first of them once more. */
    private static final class Log {
        private final int[] records = new int[MOST_CALLS];
        private final int[] lengths = new int[MOST_CALLS];
        private final int[] seeds = new int[MOST_CALLS];
        private int size = 0;

        /** An insert has no record, a delete no length. */
        void add(int record, int length, int seed) {
            records[size] = record;
            lengths[size] = length;
            seeds[size] = seed;
            size++;
        }

        void redo(Store store, int changes) {
            for (int i = 0; i < changes; i++) {
                if (records[i] == NONE) {
                    store.addRecord(lengths[i], seeds[i]);
                } else if (lengths[i] == NONE) {
                    store.removeRecord(records[i]);
                } else {
                    store.changeRecord(records[i], lengths[i], seeds[i]);
                }
            }
        }
    }

    /** The pages of the file, and the changes of records in them. */
    private static final class Store {
        private final Page[] pages = new Page[PAGES];

        Store() {
            for (int i = 0; i < PAGES; i++) {
                pages[i] = new Page();
            }
        }

        void copyFrom(Store other) {
            for (int i = 0; i < PAGES; i++) {
                pages[i].copyFrom(other.pages[i]);
            }
        }

        boolean hasRecord(int record) {
            return record >= 0 && record < RECORDS && pages[record / SLOTS].hasHome(record % SLOTS);
        }

        int firstRecordFrom(int record) {
            int slot = record % SLOTS;
            for (int i = record / SLOTS; i < PAGES; i++) {
                int home = pages[i].firstHomeFrom(slot);
                if (home != NONE) {
                    return i * SLOTS + home;
                }
                slot = 0;
            }
            return NONE;
        }

        /** The cell with a record's value, told as a record's number is. */
        int valueCell(int record) {
            Page home = pages[record / SLOTS];
            int slot = record % SLOTS;
            return home.kinds[slot] == STUB ? home.links[slot] : record;
        }

        int lengthOf(int record) {
            int cell = valueCell(record);
            return pages[cell / SLOTS].lengths[cell % SLOTS];
        }

        int seedOf(int record) {
            int cell = valueCell(record);
            return pages[cell / SLOTS].seeds[cell % SLOTS];
        }

        int chainOf(int record) {
            int cell = valueCell(record);
            return pages[cell / SLOTS].links[cell % SLOTS];
        }

        int addRecord(int length, int seed) {
            if (!hasPagesForChain(length)) {
                return NONE;
            }
            int chain = takeChain(length);
            int place = placeFor(cellBytes(HOME, length), NONE, NONE);
            if (place == NONE) {
                freeChain(chain);
                return NONE;
            }
            return place * SLOTS + pages[place].put(HOME, length, seed, chain);
        }

        boolean changeRecord(int record, int length, int seed) {
            if (!hasPagesForChain(length)) {
                return false;
            }
            int oldChain = chainOf(record);
            int chain = takeChain(length);
            boolean changed = valueCell(record) == record
                ? changeAtHome(record, length, seed, chain)
                : changeAway(record, length, seed, chain);
            freeChain(changed ? oldChain : chain);
            return changed;
        }

        void removeRecord(int record) {
            int cell = valueCell(record);
            freeChain(chainOf(record));
            if (cell != record) {
                pages[cell / SLOTS].remove(cell % SLOTS);
            }
            pages[record / SLOTS].remove(record % SLOTS);
        }

        private boolean changeAtHome(int record, int length, int seed, int chain) {
            Page home = pages[record / SLOTS];
            int slot = record % SLOTS;
            if (home.hasRoomInstead(slot, cellBytes(HOME, length))) {
                home.change(slot, HOME, length, seed, chain);
                return true;
            }
            int place = placeFor(cellBytes(AWAY, length), record / SLOTS, NONE);
            if (place == NONE) {
                return false;
            }
            int cell = place * SLOTS + pages[place].put(AWAY, length, seed, chain);
            home.change(slot, STUB, NONE, NONE, cell);
            return true;
        }

        private boolean changeAway(int record, int length, int seed, int chain) {
            Page home = pages[record / SLOTS];
            int slot = record % SLOTS;
            int oldCell = home.links[slot];
            Page away = pages[oldCell / SLOTS];
            int oldSlot = oldCell % SLOTS;
            if (home.hasRoomInstead(slot, cellBytes(HOME, length))) {
                home.change(slot, HOME, length, seed, chain);
                away.remove(oldSlot);
                return true;
            }
            if (away.hasRoomInstead(oldSlot, cellBytes(AWAY, length))) {
                away.change(oldSlot, AWAY, length, seed, chain);
                return true;
            }
            int place = placeFor(cellBytes(AWAY, length), record / SLOTS, oldCell / SLOTS);
            if (place == NONE) {
                return false;
            }
            int cell = place * SLOTS + pages[place].put(AWAY, length, seed, chain);
            away.remove(oldSlot);
            home.change(slot, STUB, NONE, NONE, cell);
            return true;
        }

        /** The page for a new cell, neither of the two that are told; NONE if there is none. */
        private int placeFor(int bytes, int notThis, int norThis) {
            int need = bytes + SLOT_BYTES;
            int place = leastClassPage(need, notThis, norThis);
            if (place == NONE) {
                place = firstPageWithRoom(need, notThis, norThis);
            }
            return place == NONE ? leastFreePage(0) : place;
        }

        private int leastClassPage(int need, int notThis, int norThis) {
            int best = NONE;
            int bestClass = CLASSES;
            for (int i = 0; i < PAGES; i++) {
                if (i == notThis || i == norThis || !pages[i].takesNewCells()) {
                    continue;
                }
                int roomClass = pages[i].room() / CLASS_BYTES;
                if (roomClass * CLASS_BYTES >= need && roomClass < bestClass) {
                    best = i;
                    bestClass = roomClass;
                }
            }
            return best;
        }

        private int firstPageWithRoom(int need, int notThis, int norThis) {
            for (int i = 0; i < PAGES; i++) {
                if (i != notThis && i != norThis && pages[i].takesNewCells() && pages[i].room() >= need) {
                    return i;
                }
            }
            return NONE;
        }

        private int leastFreePage(int from) {
            for (int i = from; i < PAGES; i++) {
                if (pages[i].kind == FREE) {
                    return i;
                }
            }
            return NONE;
        }

        private boolean hasPagesForChain(int length) {
            return chainPages(length) <= pagesThatAre(FREE);
        }

        /** Takes the pages of a long value, which must be there, and answers the first of them. */
        private int takeChain(int length) {
            int count = chainPages(length);
            int first = NONE;
            int last = NONE;
            int left = length;
            for (int i = 0; i < count; i++) {
                int taken = leastFreePage(last + 1);
                if (taken == NONE) {
                    break;
                }
                pages[taken].becomeChain(Math.min(left, CHAIN_PAGE_BYTES));
                left -= CHAIN_PAGE_BYTES;
                if (last == NONE) {
                    first = taken;
                } else {
                    pages[last].chainNext = taken;
                }
                last = taken;
            }
            return first;
        }

        private void freeChain(int first) {
            int page = first;
            for (int i = 0; i < PAGES && page != NONE; i++) {
                int following = pages[page].chainNext;
                pages[page].becomeFree();
                page = following;
            }
        }

        int pagesThatAre(int kind) {
            int count = 0;
            for (int i = 0; i < PAGES; i++) {
                if (pages[i].kind == kind) {
                    count++;
                }
            }
            return count;
        }

        int cellCount() {
            int count = 0;
            for (int i = 0; i < PAGES; i++) {
                count += pages[i].cells;
            }
            return count;
        }

        /** Also how many records are away: each of them has one stub. */
        int stubCount() {
            int count = 0;
            for (int i = 0; i < PAGES; i++) {
                count += pages[i].stubs;
            }
            return count;
        }

        int compactingCount() {
            int count = 0;
            for (int i = 0; i < PAGES; i++) {
                count += pages[i].compactings;
            }
            return count;
        }
    }

    /** A page; without cells, the fields for cells are 0; out of a chain, those for chains say nothing. */
    private static final class Page {
        private int kind = FREE;
        private int slots = 0;
        private int cells = 0;
        private int stubs = 0;
        private int used = 0;
        private int end = 0;
        private int chainNext = NONE;
        private int chainBytes = 0;
        private int compactings = 0;
        private final int[] kinds = new int[SLOTS];
        private final int[] lengths = new int[SLOTS];
        private final int[] seeds = new int[SLOTS];
        /** The first page of a value's chain (NONE for a short one), or the cell to which a stub leads. */
        private final int[] links = new int[SLOTS];

        /** Leaves the count of compactings alone, for it stays as it is in a crash. */
        void copyFrom(Page other) {
            kind = other.kind;
            slots = other.slots;
            cells = other.cells;
            stubs = other.stubs;
            used = other.used;
            end = other.end;
            chainNext = other.chainNext;
            chainBytes = other.chainBytes;
            System.arraycopy(other.kinds, 0, kinds, 0, SLOTS);
            System.arraycopy(other.lengths, 0, lengths, 0, SLOTS);
            System.arraycopy(other.seeds, 0, seeds, 0, SLOTS);
            System.arraycopy(other.links, 0, links, 0, SLOTS);
        }

        int room() {
            return CELL_PAGE_BYTES - SLOT_BYTES * slots - used;
        }

        boolean takesNewCells() {
            return kind == CELLS && cells < SLOTS;
        }

        boolean hasRoomInstead(int slot, int bytes) {
            return room() + bytesAt(slot) >= bytes;
        }

        boolean hasHome(int slot) {
            return kinds[slot] == HOME || kinds[slot] == STUB;
        }

        int firstHomeFrom(int slot) {
            for (int i = slot; i < slots; i++) {
                if (hasHome(i)) {
                    return i;
                }
            }
            return NONE;
        }

        /** Puts a new cell, for which there must be room, and answers its slot. */
        int put(int cellKind, int length, int seed, int link) {
            kind = CELLS;
            int slot = leastEmptySlot();
            int bytes = cellBytes(cellKind, length);
            if (slot < slots) {
                claimEnd(bytes, 0);
            } else {
                claimEnd(bytes, SLOT_BYTES);
                slots = slot + 1;
            }
            cells++;
            write(slot, cellKind, length, seed, link);
            return slot;
        }

        /** Changes a cell to one for which there must be room instead of it. */
        void change(int slot, int cellKind, int length, int seed, int link) {
            int before = bytesAt(slot);
            int bytes = cellBytes(cellKind, length);
            erase(slot);
            if (bytes > before) {
                claimEnd(bytes, 0);
            }
            write(slot, cellKind, length, seed, link);
        }

        void remove(int slot) {
            erase(slot);
            cells--;
            while (slots > 0 && kinds[slots - 1] == NOTHING) {
                slots--;
            }
            if (cells == 0) {
                becomeFree();
            }
        }

        void becomeChain(int bytes) {
            kind = CHAIN;
            chainNext = NONE;
            chainBytes = bytes;
        }

        void becomeFree() {
            kind = FREE;
            end = 0;
        }

        private int bytesAt(int slot) {
            return cellBytes(kinds[slot], lengths[slot]);
        }

        private int leastEmptySlot() {
            for (int i = 0; i < slots; i++) {
                if (kinds[i] == NOTHING) {
                    return i;
                }
            }
            return slots;
        }

        /** Moves the end behind a cell that is about to be written there. */
        private void claimEnd(int bytes, int slotBytes) {
            if (end + bytes + slotBytes > CELL_PAGE_BYTES - SLOT_BYTES * slots) {
                end = used;
                compactings++;
            }
            end += bytes;
        }

        private void erase(int slot) {
            used -= cellBytes(kinds[slot], lengths[slot]);
            if (kinds[slot] == STUB) {
                stubs--;
            }
            kinds[slot] = NOTHING;
        }

        private void write(int slot, int cellKind, int length, int seed, int link) {
            kinds[slot] = cellKind;
            lengths[slot] = length;
            seeds[slot] = seed;
            links[slot] = link;
            used += cellBytes(cellKind, length);
            if (cellKind == STUB) {
                stubs++;
            }
        }
    }
}
