import java.util.ArrayList;
import java.util.List;
import java.util.NoSuchElementException;

/**
 * The document once more, as plainly as it can be said and with nothing counted along: every answer is
 * found by looking at all cells, and a crash goes back to a copy that was made behind each change.
 */
final class Model {
    /** A cell: a stub leads to a page and slot; a value has its chain's pages. */
    record Cell(boolean stub, boolean away, int toPage, int toSlot, int length, int seed, List<Integer> chain) {
        static Cell value(boolean away, int length, int seed, List<Integer> chain) {
            return new Cell(false, away, -1, -1, length, seed, chain);
        }

        static Cell stubTo(int page, int slot) {
            return new Cell(true, false, page, slot, -1, -1, List.of());
        }

        int takes() {
            if (stub) {
                return 5;
            }
            return Math.max(5, (length <= 100 ? length + 1 : 9) + (away ? 4 : 0));
        }
    }

    private static final class State {
        final Cell[][] cells = new Cell[96][32];
        final int[] end = new int[96];
        final int[] chainBytes = new int[96];
        final int[] chainNext = new int[96];

        State copy() {
            State copy = new State();
            for (int p = 0; p < 96; p++) {
                copy.cells[p] = cells[p].clone();
                copy.end[p] = end[p];
                copy.chainBytes[p] = chainBytes[p];
                copy.chainNext[p] = chainNext[p];
            }
            return copy;
        }

        int cellCount(int p) {
            int n = 0;
            for (Cell c : cells[p]) {
                n += c == null ? 0 : 1;
            }
            return n;
        }

        int slotCount(int p) {
            int n = 0;
            for (int s = 0; s < 32; s++) {
                n = cells[p][s] == null ? n : s + 1;
            }
            return n;
        }

        int taken(int p) {
            int n = 0;
            for (Cell c : cells[p]) {
                n += c == null ? 0 : c.takes();
            }
            return n;
        }

        int room(int p) {
            return 248 - 4 * slotCount(p) - taken(p);
        }

        int kind(int p) {
            return chainBytes[p] > 0 ? 2 : cellCount(p) > 0 ? 1 : 0;
        }

        List<Integer> pagesOfKind(int kind) {
            List<Integer> found = new ArrayList<>();
            for (int p = 0; p < 96; p++) {
                if (kind(p) == kind) {
                    found.add(p);
                }
            }
            return found;
        }
    }

    private State state = new State();
    private final List<State> history = new ArrayList<>();
    private int compacted = 0;
    private int crashes = 0;

    Model() {
        history.add(state.copy());
    }

    int insert(int length, int seed) {
        value(length, seed);
        State before = state.copy();
        List<Integer> chain = chain(length);
        int page = chain == null ? -1 : place(Cell.value(false, length, seed, chain).takes(), List.of());
        if (page < 0) {
            state = before;
            return -1;
        }
        int slot = putNew(page, Cell.value(false, length, seed, chain));
        history.add(state.copy());
        return 32 * page + slot;
    }

    boolean update(int record, int length, int seed) {
        exists(record);
        value(length, seed);
        State before = state.copy();
        List<Integer> chain = chain(length);
        if (chain == null || !updated(record, length, seed, chain)) {
            state = before;
            return false;
        }
        history.add(state.copy());
        return true;
    }

    private boolean updated(int record, int length, int seed, List<Integer> chain) {
        int page = record / 32;
        int slot = record % 32;
        Cell home = state.cells[page][slot];
        Cell old = valueOf(record);
        Cell atHome = Cell.value(false, length, seed, chain);
        Cell away = Cell.value(true, length, seed, chain);
        if (state.room(page) + home.takes() >= atHome.takes()) {
            changeCell(page, slot, atHome);
            if (home.stub()) {
                takeAway(home.toPage(), home.toSlot());
            }
        } else if (home.stub() && state.room(home.toPage()) + old.takes() >= away.takes()) {
            changeCell(home.toPage(), home.toSlot(), away);
        } else {
            int to = place(away.takes(), home.stub() ? List.of(page, home.toPage()) : List.of(page));
            if (to < 0) {
                return false;
            }
            int toSlot = putNew(to, away);
            if (home.stub()) {
                takeAway(home.toPage(), home.toSlot());
            }
            changeCell(page, slot, Cell.stubTo(to, toSlot));
        }
        old.chain().forEach(this::freeChainPage);
        return true;
    }

    int delete(int record) {
        exists(record);
        Cell home = state.cells[record / 32][record % 32];
        Cell old = valueOf(record);
        if (home.stub()) {
            takeAway(home.toPage(), home.toSlot());
        }
        takeAway(record / 32, record % 32);
        old.chain().forEach(this::freeChainPage);
        history.add(state.copy());
        return old.length();
    }

    int length(int record) {
        return isThere(record) ? valueOf(record).length() : -1;
    }

    int byteAt(int record, int i) {
        exists(record);
        Cell value = valueOf(record);
        return i < 0 || i >= value.length() ? -1 : (value.seed() + 7 * i + i / 16) % 256;
    }

    int where(int record, int what) {
        exists(record);
        Cell home = state.cells[record / 32][record % 32];
        List<Integer> chain = valueOf(record).chain();
        return switch (what) {
            case 0 -> home.stub() ? home.toPage() : record / 32;
            case 1 -> home.stub() ? home.toSlot() : record % 32;
            case 2 -> chain.size();
            case 3 -> chain.isEmpty() ? -1 : chain.get(0);
            default -> throw new IllegalArgumentException();
        };
    }

    int next(int record) {
        for (int r = 0; r < 3072; r++) {
            if (r > record && isThere(r)) {
                return r;
            }
        }
        return -1;
    }

    int page(int page, int what) {
        if (page < 0 || page > 95 || what < 0 || what > 8) {
            throw new IllegalArgumentException();
        }
        int kind = state.kind(page);
        if (what == 0) {
            return kind;
        }
        if (kind != (what <= 6 ? 1 : 2)) {
            return -1;
        }
        return switch (what) {
            case 1 -> state.slotCount(page);
            case 2 -> state.cellCount(page);
            case 3 -> state.room(page);
            case 4 -> state.end[page];
            case 5 -> state.room(page) / 31;
            case 6 -> stubs(page);
            case 7 -> state.chainNext[page];
            default -> state.chainBytes[page];
        };
    }

    int slot(int page, int slot) {
        if (page < 0 || page > 95 || slot < 0) {
            throw new IllegalArgumentException();
        }
        if (slot >= state.slotCount(page)) {
            return -1;
        }
        Cell c = state.cells[page][slot];
        return c == null ? 0 : c.stub() ? 2 : c.away() ? 3 : 1;
    }

    int sync() {
        int changes = history.size() - 1;
        history.clear();
        history.add(state.copy());
        return changes;
    }

    int crash(int k) {
        if (k < 0 || k >= history.size()) {
            throw new IllegalArgumentException();
        }
        int lost = history.size() - 1 - k;
        state = history.get(k).copy();
        history.clear();
        history.add(state.copy());
        crashes++;
        return lost;
    }

    int total(int what) {
        return switch (what) {
            case 0 -> records(false);
            case 1 -> state.pagesOfKind(0).size();
            case 2 -> state.pagesOfKind(1).size();
            case 3 -> state.pagesOfKind(2).size();
            case 4 -> records(true);
            case 5 -> history.size() - 1;
            case 6 -> compacted;
            case 7 -> crashes;
            default -> throw new IllegalArgumentException();
        };
    }

    private int records(boolean onlyAway) {
        int n = 0;
        for (int r = 0; r < 3072; r++) {
            if (isThere(r) && (!onlyAway || state.cells[r / 32][r % 32].stub())) {
                n++;
            }
        }
        return n;
    }

    private int stubs(int page) {
        int n = 0;
        for (Cell c : state.cells[page]) {
            n += c != null && c.stub() ? 1 : 0;
        }
        return n;
    }

    private boolean isThere(int record) {
        if (record < 0 || record >= 3072) {
            return false;
        }
        Cell c = state.cells[record / 32][record % 32];
        return c != null && !c.away();
    }

    private void exists(int record) {
        if (!isThere(record)) {
            throw new NoSuchElementException();
        }
    }

    private static void value(int length, int seed) {
        if (length < 0 || length > 1200 || seed < 0 || seed > 255) {
            throw new IllegalArgumentException();
        }
    }

    private Cell valueOf(int record) {
        Cell c = state.cells[record / 32][record % 32];
        return c.stub() ? state.cells[c.toPage()][c.toSlot()] : c;
    }

    /** Null if there are not so many free pages. */
    private List<Integer> chain(int length) {
        List<Integer> taken = new ArrayList<>();
        if (length <= 100) {
            return taken;
        }
        for (int from = 0; from < length; from += 240) {
            List<Integer> free = state.pagesOfKind(0);
            if (free.isEmpty()) {
                return null;
            }
            int p = free.get(0);
            state.chainBytes[p] = Math.min(240, length - from);
            state.chainNext[p] = -1;
            if (!taken.isEmpty()) {
                state.chainNext[taken.get(taken.size() - 1)] = p;
            }
            taken.add(p);
        }
        return taken;
    }

    private void freeChainPage(int p) {
        state.chainBytes[p] = 0;
        state.chainNext[p] = -1;
    }

    private int place(int n, List<Integer> not) {
        List<Integer> count = new ArrayList<>(state.pagesOfKind(1));
        count.removeIf(p -> not.contains(p) || state.cellCount(p) == 32);
        for (int c = 0; c <= 8; c++) {
            for (int p : count) {
                if (c * 31 >= n + 4 && state.room(p) / 31 == c) {
                    return p;
                }
            }
        }
        for (int p : count) {
            if (state.room(p) >= n + 4) {
                return p;
            }
        }
        List<Integer> free = state.pagesOfKind(0);
        return free.isEmpty() ? -1 : free.get(0);
    }

    private int putNew(int page, Cell cell) {
        int slot = 0;
        while (state.cells[page][slot] != null) {
            slot++;
        }
        putAtEnd(page, slot, cell, slot >= state.slotCount(page) ? 4 : 0, state.slotCount(page));
        return slot;
    }

    private void changeCell(int page, int slot, Cell cell) {
        Cell old = state.cells[page][slot];
        if (cell.takes() <= old.takes()) {
            state.cells[page][slot] = cell;
            return;
        }
        int slots = state.slotCount(page);
        state.cells[page][slot] = null;
        putAtEnd(page, slot, cell, 0, slots);
    }

    private void putAtEnd(int page, int slot, Cell cell, int more, int slots) {
        if (248 - 4 * slots - state.end[page] < cell.takes() + more) {
            state.end[page] = state.taken(page);
            compacted++;
        }
        state.end[page] += cell.takes();
        state.cells[page][slot] = cell;
    }

    private void takeAway(int page, int slot) {
        state.cells[page][slot] = null;
        if (state.cellCount(page) == 0) {
            state.end[page] = 0;
        }
    }
}
