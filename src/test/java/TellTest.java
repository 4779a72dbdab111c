/** Promises 5 to 10 and 13: what is told of records, pages, slots and the whole. */
final class TellTest {
    private static final int NONE = SlotFile.NONE;
    private static final int[] NO_RECORDS =
        {-1, 3, 31, 33, 65, 96, 3071, 3072, 3073, Integer.MIN_VALUE, Integer.MAX_VALUE};
    private final Checks checks = new Checks("TellTest");

    public static void main(String[] args) {
        TellTest test = new TellTest();
        test.lengths();
        test.bytes();
        test.places();
        test.nextRecords();
        test.pages();
        test.slots();
        test.totals();
        test.checks.finish();
    }

    /**
     * Records 0 (100 bytes), 1 (away, 60 bytes), 2 (100 bytes) in page 0; 32 (80 bytes) in page 1 and in
     * its slot 1 the value of 1; 34 (700 bytes) in page 1 too with the chain 2, 3, 4.
     */
    private static Run example() {
        Run file = new Run();
        file.insert(100, 10);
        file.insert(0, 11);
        file.insert(100, 12);
        file.insert(80, 13);
        file.update(1, 60, 14);
        file.insert(700, 15);
        return file;
    }

    private void lengths() {
        checks.part("promise 5");
        Run file = example();
        checks.is("of 0", file.length(0), 100);
        checks.is("of 1", file.length(1), 60);
        checks.is("of 32", file.length(32), 80);
        checks.is("of 34", file.length(34), 700);
        for (int record : NO_RECORDS) {
            checks.is("of " + record, file.length(record), NONE);
        }
        file.delete(0);
        checks.is("of one that was", file.length(0), NONE);
        file.update(2, 0, 0);
        checks.is("of an empty one", file.length(2), 0);
    }

    private void bytes() {
        checks.part("promise 6");
        everyByte(100, 255);
        everyByte(1200, 200);
        Run file = new Run();
        int shortOne = file.insert(100, 255);
        int longOne = file.insert(1200, 200);
        checks.is("byte 1 as a number", file.byteAt(shortOne, 1), 6);
        checks.is("byte 16 as a number", file.byteAt(shortOne, 16), 112);
        checks.is("the last byte as a number", file.byteAt(longOne, 1199), 219);
        int[] outside = {-1, 1200, Integer.MIN_VALUE, Integer.MAX_VALUE};
        for (int i : outside) {
            checks.is("byte " + i, file.byteAt(longOne, i), NONE);
        }
        Run other = example();
        checks.is("a byte of one that is away", other.byteAt(1, 0), 14);
        checks.is("behind it", other.byteAt(1, 60), NONE);
        for (int record : NO_RECORDS) {
            checks.missing("byteAt of " + record, () -> other.byteAt(record, 0));
        }
        checks.missing("no record and no byte", () -> other.byteAt(3, -1));
        other.update(0, 0, 0);
        checks.is("an empty value", other.byteAt(0, 0), NONE);
    }

    /** All bytes of a value and one behind them, 400 of an object. */
    private void everyByte(int length, int seed) {
        for (int from = 0; from <= length; from += 400) {
            Run file = new Run();
            int record = file.insert(length, seed);
            for (int i = from; i < from + 400 && i <= length; i++) {
                int due = i < length ? (seed + 7 * i + i / 16) % 256 : NONE;
                checks.is("byte " + i + " of " + length, file.byteAt(record, i), due);
            }
        }
    }

    private void where(Run file, int record, int page, int slot, int pages, int first) {
        checks.is("page of " + record, file.where(record, 0), page);
        checks.is("slot of " + record, file.where(record, 1), slot);
        checks.is("chain pages of " + record, file.where(record, 2), pages);
        checks.is("first chain page of " + record, file.where(record, 3), first);
    }

    private void places() {
        checks.part("promise 7");
        Run file = example();
        where(file, 0, 0, 0, 0, NONE);
        where(file, 1, 1, 1, 0, NONE);
        where(file, 2, 0, 2, 0, NONE);
        where(file, 32, 1, 0, 0, NONE);
        where(file, 34, 1, 2, 3, 2);
        int[] wrong = {-1, 4, Integer.MIN_VALUE, Integer.MAX_VALUE};
        for (int what : wrong) {
            checks.illegal("what of " + what, () -> file.where(1, what));
            checks.missing("what of " + what + ", no record", () -> file.where(3, what));
        }
        for (int record : NO_RECORDS) {
            checks.missing("where of " + record, () -> file.where(record, 0));
        }
    }

    private void nextRecords() {
        checks.part("promise 8");
        Run file = example();
        int[] from = {Integer.MIN_VALUE, -2, -1, 0, 1, 2, 31, 32, 33, 34, 35, 3071, 3072, Integer.MAX_VALUE};
        int[] due = {0, 0, 0, 1, 2, 32, 32, 34, 34, NONE, NONE, NONE, NONE, NONE};
        for (int i = 0; i < from.length; i++) {
            checks.is("above " + from[i], file.next(from[i]), due[i]);
        }
        file.delete(0);
        file.delete(2);
        checks.is("a stub alone", file.next(-1), 1);
        checks.is("behind it", file.next(1), 32);
    }

    private void page(Run file, int page, int... due) {
        for (int what = 0; what <= 8; what++) {
            checks.is("page(" + page + ", " + what + ")", file.page(page, what), due[what]);
        }
    }

    private void pages() {
        checks.part("promise 9");
        Run file = example();
        page(file, 0, 1, 3, 3, 29, 207, 0, 1, NONE, NONE);
        page(file, 1, 1, 3, 3, 81, 155, 2, 0, NONE, NONE);
        page(file, 2, 2, NONE, NONE, NONE, NONE, NONE, NONE, 3, 240);
        page(file, 3, 2, NONE, NONE, NONE, NONE, NONE, NONE, 4, 240);
        page(file, 4, 2, NONE, NONE, NONE, NONE, NONE, NONE, NONE, 220);
        page(file, 5, 0, NONE, NONE, NONE, NONE, NONE, NONE, NONE, NONE);
        page(file, 95, 0, NONE, NONE, NONE, NONE, NONE, NONE, NONE, NONE);
        file.delete(34);
        page(file, 2, 0, NONE, NONE, NONE, NONE, NONE, NONE, NONE, NONE);
        int[] wrongPages = {-1, 96, Integer.MIN_VALUE, Integer.MAX_VALUE};
        int[] wrongWhats = {-1, 9, Integer.MIN_VALUE, Integer.MAX_VALUE};
        for (int i = 0; i < 4; i++) {
            int page = wrongPages[i];
            int what = wrongWhats[i];
            checks.illegal("page " + page, () -> file.page(page, 0));
            checks.illegal("what " + what + " of a page of cells", () -> file.page(0, what));
            checks.illegal("what " + what + " of a free page", () -> file.page(95, what));
        }
    }

    private void slots() {
        checks.part("promise 10");
        Run file = example();
        file.delete(0);
        int[][] due = {{0, 2, 1, NONE}, {1, 3, 1, NONE}, {NONE, NONE, NONE, NONE}, {NONE, NONE, NONE, NONE}};
        for (int page = 0; page < 4; page++) {
            for (int slot = 0; slot < 4; slot++) {
                checks.is("slot " + slot + " of page " + page, file.slot(page, slot), due[page][slot]);
            }
        }
        int[] behind = {31, 32, 3072, Integer.MAX_VALUE};
        for (int slot : behind) {
            checks.is("slot " + slot, file.slot(0, slot), NONE);
            checks.is("slot " + slot + " of a free page", file.slot(95, slot), NONE);
        }
        checks.illegal("page -1", () -> file.slot(-1, 0));
        checks.illegal("page 96", () -> file.slot(96, 0));
        checks.illegal("slot -1", () -> file.slot(0, -1));
        checks.illegal("slot -1 of a free page", () -> file.slot(95, -1));
        checks.illegal("least slot", () -> file.slot(0, Integer.MIN_VALUE));
    }

    private void totals() {
        checks.part("promise 13");
        Run file = example();
        int[] due = {5, 91, 2, 3, 1, 6, 0, 0};
        for (int what = 0; what <= 7; what++) {
            checks.is("total(" + what + ")", file.total(what), due[what]);
        }
        file.sync();
        file.crash(0);
        file.update(0, 10, 0);
        file.update(1, 30, 0);
        int[] then = {5, 91, 2, 3, 0, 2, 1, 1};
        for (int what = 0; what <= 7; what++) {
            checks.is("then total(" + what + ")", file.total(what), then[what]);
        }
        int[] wrong = {-1, 8, Integer.MIN_VALUE, Integer.MAX_VALUE};
        for (int what : wrong) {
            checks.illegal("total(" + what + ")", () -> file.total(what));
        }
    }
}
