/** Promises 1 to 13 call by call: the last number that may be and the first that may not, empty files and full ones. */
final class CallEdgeTest {
    private static final int NONE = SlotFile.NONE;
    private static final int LEAST = Integer.MIN_VALUE;
    private static final int GREATEST = Integer.MAX_VALUE;
    private final Checks checks = new Checks("CallEdgeTest");

    public static void main(String[] args) {
        CallEdgeTest test = new CallEdgeTest();
        test.newObject();
        test.objectsOfTheirOwn();
        test.insertLengths();
        test.insertSeeds();
        test.insertWrongInAFullFile();
        test.updateLengthsAndSeeds();
        test.updateOfNone();
        test.updateNoneBeforeWrong();
        test.deleteOfNone();
        test.deleteAnswersLengths();
        test.numbersStay();
        test.lengthEdges();
        test.lengthOfNone();
        test.byteAtEnds();
        test.byteAtWraps();
        test.byteAtOfNone();
        test.whereEdges();
        test.whereWrong();
        test.nextInAnEmptyFile();
        test.nextEdges();
        test.nextInAFullFile();
        test.pageWrong();
        test.pageKinds();
        test.slotWrong();
        test.slotKinds();
        test.totalWrong();
        test.totalEmptyAndFull();
        test.checks.finish();
    }

    /** No page is free: long values with cells in page 5 (160 .. 177), 178; 3040 with a chain, and 3041 .. 3066. */
    private static Run full() {
        return new Run().inserts(18, 1200).inserts(1, 0).inserts(1, 960).inserts(26, 0);
    }

    /**
     * Page 0: 0 (100 bytes), 1 (a stub), an empty slot, 3 (60 bytes); page 1: 32 (80 bytes), the value of 1 (90
     * bytes) in slot 1, 34 (300 bytes) with the chain 2, 3; page 4 and all behind it are free.
     */
    private static Run mixed() {
        Run run = new Run();
        run.insert(100, 1);
        run.insert(10, 2);
        run.insert(40, 3);
        run.insert(60, 4);
        run.insert(80, 5);
        run.update(1, 90, 6);
        run.insert(300, 7);
        run.delete(2);
        return run;
    }

    /** All sorts of numbers that are no record's in mixed(): empty, behind the last slot, away, chain, free, none. */
    private static final int[] NO_RECORDS =
        {2, 4, 31, 33, 35, 63, 64, 96, 128, 95 * 32, 3071, 3072, 3073, GREATEST, -1, -2, -32, LEAST};

    private void newObject() {
        checks.part("promise 1, 'All pages are free'");
        Run run = new Run();
        for (int page = 0; page < 96; page++) {
            checks.is("page " + page, run.page(page, 0), 0);
        }
        for (int page : new int[] {0, 95}) {
            for (int what = 1; what <= 8; what++) {
                checks.is("page(" + page + ", " + what + ")", run.page(page, what), NONE);
            }
            checks.is("slot(" + page + ", 0)", run.slot(page, 0), NONE);
        }
        int[] totals = {0, 96, 0, 0, 0, 0, 0, 0};
        for (int what = 0; what <= 7; what++) {
            checks.is("total(" + what + ")", run.total(what), totals[what]);
        }
        checks.is("next", run.next(NONE), NONE);
        checks.is("length", run.length(0), NONE);
    }

    private void objectsOfTheirOwn() {
        checks.part("promise 1, an object has nothing of another");
        Run first = full();
        Run second = new Run();
        checks.is("its first record", second.insert(0, 0), 0);
        checks.is("its records", second.total(0), 1);
        checks.is("the other's", first.total(0), 46);
    }

    private void insertLengths() {
        checks.part("promise 2, 'a length is not 0 .. 1200'");
        Run run = new Run();
        checks.unchanged("wrong lengths", run, () -> {
            for (int length : new int[] {-1, 1201, 1202, LEAST, GREATEST}) {
                checks.illegal("insert(" + length + ", 0)", () -> run.insert(length, 0));
            }
        });
        checks.is("0", run.insert(0, 9), 0);
        checks.is("its length", run.length(0), 0);
        checks.is("1200", run.insert(1200, 9), 1);
        checks.is("its length", run.length(1), 1200);
        checks.same("its chain", run.place(1), "0.1 chain of 5 from 1");
        checks.is("changes", run.total(5), 2);
    }

    private void insertSeeds() {
        checks.part("promise 2, 'a seed not 0 .. 255'");
        Run run = new Run();
        checks.unchanged("wrong seeds", run, () -> {
            for (int seed : new int[] {-1, 256, 257, LEAST, GREATEST}) {
                checks.illegal("insert(5, " + seed + ")", () -> run.insert(5, seed));
                checks.illegal("insert(0, " + seed + ")", () -> run.insert(0, seed));
                checks.illegal("insert(1201, " + seed + ")", () -> run.insert(1201, seed));
            }
        });
        checks.is("0", run.insert(5, 0), 0);
        checks.is("its byte", run.byteAt(0, 0), 0);
        checks.is("255", run.insert(5, 255), 1);
        checks.is("its byte", run.byteAt(1, 0), 255);
    }

    private void insertWrongInAFullFile() {
        checks.part("promise 2, NONE if it is refused, but an exception if a number is wrong");
        Run run = full();
        checks.unchanged("all of them", run, () -> {
            checks.is("0", run.insert(0, 0), NONE);
            checks.is("1200", run.insert(1200, 255), NONE);
            checks.illegal("-1", () -> run.insert(-1, 0));
            checks.illegal("1201", () -> run.insert(1201, 0));
            checks.illegal("seed 256", () -> run.insert(0, 256));
        });
    }

    private void updateLengthsAndSeeds() {
        checks.part("promise 3, wrong lengths and seeds");
        Run run = mixed();
        int[] records = {0, 1, 34};
        checks.unchanged("wrong numbers", run, () -> {
            for (int record : records) {
                for (int length : new int[] {-1, 1201, LEAST, GREATEST}) {
                    checks.illegal("length " + length + " of " + record, () -> run.update(record, length, 0));
                }
                for (int seed : new int[] {-1, 256, LEAST, GREATEST}) {
                    checks.illegal("seed " + seed + " of " + record, () -> run.update(record, 7, seed));
                }
            }
        });
        for (int record : records) {
            checks.is("1200 of " + record, run.update(record, 1200, 255), true);
            checks.is("its length", run.length(record), 1200);
            checks.is("its byte", run.byteAt(record, 0), 255);
            checks.is("0 of " + record, run.update(record, 0, 0), true);
            checks.is("its length", run.length(record), 0);
            checks.is("its byte", run.byteAt(record, 0), NONE);
        }
        Run full = full();
        checks.illegal("wrong, where it would be refused", () -> full.update(3041, 1201, 0));
        checks.is("refused", full.update(3041, 1200, 0), false);
    }

    private void updateOfNone() {
        checks.part("promise 3, 'there is no such record'");
        Run run = mixed();
        checks.unchanged("no records", run, () -> {
            for (int record : NO_RECORDS) {
                checks.missing("update of " + record, () -> run.update(record, 0, 0));
            }
        });
        Run empty = new Run();
        checks.missing("update in an empty file", () -> empty.update(0, 0, 0));
        Run full = full();
        checks.missing("update in a full file", () -> full.update(3067, 0, 0));
        checks.is("of its last record", full.update(3066, 4, 0), true);
        full.delete(3066);
        checks.missing("update of one that was", () -> full.update(3066, 0, 0));
    }

    private void updateNoneBeforeWrong() {
        checks.part("promise 3, 'NoSuchElementException; IllegalArgumentException' in this order");
        Run run = mixed();
        checks.unchanged("wrong in two ways", run, () -> {
            checks.missing("length", () -> run.update(2, 1201, 0));
            checks.missing("seed", () -> run.update(-1, 0, 256));
            checks.missing("both", () -> run.update(3072, -1, -1));
        });
    }

    private void deleteOfNone() {
        checks.part("promise 4, 'NoSuchElementException'");
        Run run = mixed();
        checks.unchanged("no records", run, () -> {
            for (int record : NO_RECORDS) {
                checks.missing("delete of " + record, () -> run.delete(record));
            }
        });
        checks.is("one that is there", run.delete(1), 90);
        checks.unchanged("a second time", run, () -> checks.missing("delete", () -> run.delete(1)));
        Run empty = new Run();
        checks.missing("delete in an empty file", () -> empty.delete(0));
        checks.is("changes", empty.total(5), 0);
    }

    private void deleteAnswersLengths() {
        checks.part("promise 4, 'how long its value was'");
        for (int length : new int[] {0, 1, 100, 101, 240, 241, 1199, 1200}) {
            Run run = new Run();
            int record = run.insert(length, 0);
            checks.is("delete", run.delete(record), length);
            checks.is("free pages", run.total(1), 96);
            checks.is("records", run.total(0), 0);
        }
        checks.is("of one that is away", mixed().delete(1), 90);
    }

    private void numbersStay() {
        checks.part("'a number, 32 page + slot of its HOME, that stays as long as it is there'");
        Run run = mixed();
        checks.same("away", run.place(1), "1.1");
        checks.is("its length by its number", run.length(1), 90);
        checks.is("the number of its cell is none", run.length(33), NONE);
        checks.is("home again", run.update(1, 5, 0), true);
        checks.same("home", run.place(1), "0.1");
        checks.is("its length", run.length(1), 5);
        run.delete(1);
        checks.is("no more", run.length(1), NONE);
        checks.is("the number again", run.insert(20, 8), 1);
        checks.is("with another value", run.length(1), 20);
        checks.is("the number of the cell that was away", run.insert(91, 8), 33);
        checks.is("its value", run.length(33), 91);
    }

    private void lengthEdges() {
        checks.part("promise 5, lengths 0 .. 1200");
        for (int length : new int[] {0, 1, 99, 100, 101, 239, 240, 241, 1199, 1200}) {
            Run run = new Run();
            checks.is("length", run.length(run.insert(length, 3)), length);
        }
        checks.is("of the greatest number that a record can have", full().length(3066), 0);
    }

    private void lengthOfNone() {
        checks.part("promise 5, 'NONE if there is none such'");
        Run run = mixed();
        Run empty = new Run();
        for (int record : NO_RECORDS) {
            checks.is("length of " + record, run.length(record), NONE);
            checks.is("in an empty file", empty.length(record), NONE);
        }
    }

    private void byteAtEnds() {
        checks.part("promise 6, 'NONE behind its end and for i below 0'");
        for (int length : new int[] {1, 100, 101, 240, 241, 1200}) {
            Run run = new Run();
            int record = run.insert(length, 77);
            int last = length - 1;
            checks.is("byte -1", run.byteAt(record, -1), NONE);
            checks.is("byte 0", run.byteAt(record, 0), 77);
            checks.is("the last byte of " + length, run.byteAt(record, last), (77 + 7 * last + last / 16) % 256);
            checks.is("behind it", run.byteAt(record, length), NONE);
            checks.is("byte 1200", run.byteAt(record, 1200), NONE);
            checks.is("the least", run.byteAt(record, LEAST), NONE);
            checks.is("the greatest", run.byteAt(record, GREATEST), NONE);
        }
        Run empty = new Run();
        empty.insert(0, 77);
        checks.is("byte 0 of an empty value", empty.byteAt(0, 0), NONE);
        checks.is("byte -1 of an empty value", empty.byteAt(0, -1), NONE);
        Run away = mixed();
        checks.is("the last byte of one that is away", away.byteAt(1, 89), (6 + 7 * 89 + 5) % 256);
        checks.is("behind it", away.byteAt(1, 90), NONE);
    }

    private void byteAtWraps() {
        checks.part("promise 6, '(seed + 7 i + i / 16) modulo 256'");
        int[] seeds = {248, 249, 255, 0, 0, 0, 0, 255, 255, 0};
        int[] places = {1, 1, 1, 15, 16, 36, 37, 0, 1199, 1199};
        int[] due = {255, 0, 6, 105, 113, 254, 5, 255, 18, 19};
        for (int i = 0; i < seeds.length; i++) {
            Run run = new Run();
            int record = run.insert(1200, seeds[i]);
            checks.is("byte " + places[i] + " of seed " + seeds[i], run.byteAt(record, places[i]), due[i]);
        }
    }

    private void byteAtOfNone() {
        checks.part("promise 6, 'NoSuchElementException'");
        Run run = mixed();
        checks.unchanged("no records", run, () -> {
            for (int record : NO_RECORDS) {
                checks.missing("byteAt(" + record + ", 0)", () -> run.byteAt(record, 0));
                checks.missing("byteAt(" + record + ", -1)", () -> run.byteAt(record, -1));
                checks.missing("byteAt(" + record + ", 1200)", () -> run.byteAt(record, 1200));
            }
        });
        Run empty = new Run();
        checks.missing("in an empty file", () -> empty.byteAt(0, 0));
    }

    private void where(Run run, int record, int... due) {
        for (int what = 0; what <= 3; what++) {
            checks.is("where(" + record + ", " + what + ")", run.where(record, what), due[what]);
        }
    }

    private void whereEdges() {
        checks.part("promise 7, 'how many chain pages it has (2), the first of them (3; NONE for none)'");
        Run run = mixed();
        where(run, 0, 0, 0, 0, NONE);
        where(run, 1, 1, 1, 0, NONE);
        where(run, 34, 1, 2, 2, 2);
        Run edge = new Run().inserts(1, 100);
        where(edge, 0, 0, 0, 0, NONE);
        edge.update(0, 101, 0);
        where(edge, 0, 0, 0, 1, 1);
        edge.update(0, 100, 0);
        where(edge, 0, 0, 0, 0, NONE);
        edge.update(0, 1200, 0);
        where(edge, 0, 0, 0, 5, 1);
        Run last = full();
        where(last, 3066, 95, 26, 0, NONE);
        where(last, 3040, 95, 0, 4, 91);
        Run first = new Run().inserts(1, 101);
        where(first, 32, 1, 0, 1, 0);
    }

    private void whereWrong() {
        checks.part("promise 7, 'what is none of these'");
        Run run = mixed();
        checks.unchanged("wrong", run, () -> {
            for (int what : new int[] {-1, 4, 5, LEAST, GREATEST}) {
                for (int record : new int[] {0, 1, 34}) {
                    checks.illegal("where(" + record + ", " + what + ")", () -> run.where(record, what));
                }
                checks.missing("where(2, " + what + ")", () -> run.where(2, what));
            }
            for (int record : NO_RECORDS) {
                checks.missing("where(" + record + ", 0)", () -> run.where(record, 0));
                checks.missing("where(" + record + ", 3)", () -> run.where(record, 3));
            }
        });
    }

    private void nextInAnEmptyFile() {
        checks.part("promise 8, 'NONE if there is none'");
        Run run = new Run();
        for (int record : new int[] {LEAST, -2, -1, 0, 31, 32, 3070, 3071, 3072, GREATEST}) {
            checks.is("next(" + record + ")", run.next(record), NONE);
        }
    }

    private void nextEdges() {
        checks.part("promise 8, 'The least record's number above one'");
        Run run = mixed();
        int[] from = {LEAST, -33, -1, 0, 1, 2, 3, 4, 31, 32, 33, 34, 35, 64, 3071, 3072, GREATEST};
        int[] due = {0, 0, 0, 1, 3, 3, 32, 32, 32, 34, 34, NONE, NONE, NONE, NONE, NONE, NONE};
        for (int i = 0; i < from.length; i++) {
            checks.is("next(" + from[i] + ")", run.next(from[i]), due[i]);
        }
        run.delete(0);
        checks.is("a stub is the first", run.next(-1), 1);
        run.delete(34);
        run.delete(32);
        checks.is("a cell that is away is none", run.next(3), NONE);
    }

    private void nextInAFullFile() {
        checks.part("promise 8, in a full file");
        Run run = full();
        int[] from = {-1, 159, 160, 177, 178, 3039, 3040, 3065, 3066, 3067};
        int[] due = {160, 160, 161, 178, 3040, 3040, 3041, 3066, NONE, NONE};
        for (int i = 0; i < from.length; i++) {
            checks.is("next(" + from[i] + ")", run.next(from[i]), due[i]);
        }
        int seen = 0;
        int last = NONE;
        for (int record = run.next(NONE); record != NONE && seen < 100; record = run.next(record)) {
            seen++;
            last = record;
        }
        checks.is("all of them", seen, 46);
        checks.is("the last", last, 3066);
    }

    private void pageWrong() {
        checks.part("promise 9, 'IllegalArgumentException'");
        Run run = mixed();
        checks.unchanged("wrong", run, () -> {
            for (int page : new int[] {-1, 96, 97, LEAST, GREATEST}) {
                checks.illegal("page(" + page + ", 0)", () -> run.page(page, 0));
                checks.illegal("page(" + page + ", 8)", () -> run.page(page, 8));
                checks.illegal("page(" + page + ", 9)", () -> run.page(page, 9));
            }
            for (int what : new int[] {-1, 9, 10, LEAST, GREATEST}) {
                for (int page : new int[] {0, 2, 4, 95}) {
                    checks.illegal("page(" + page + ", " + what + ")", () -> run.page(page, what));
                }
            }
        });
        checks.is("the last page", run.page(95, 0), 0);
    }

    private void page(Run run, int page, int... due) {
        for (int what = 0; what <= 8; what++) {
            checks.is("page(" + page + ", " + what + ")", run.page(page, what), due[what]);
        }
    }

    private void pageKinds() {
        checks.part("promise 9, 'NONE for these otherwise'");
        Run run = mixed();
        page(run, 0, 1, 4, 3, 65, 214, 2, 1, NONE, NONE);
        page(run, 1, 1, 3, 3, 51, 185, 1, 0, NONE, NONE);
        page(run, 2, 2, NONE, NONE, NONE, NONE, NONE, NONE, 3, 240);
        page(run, 3, 2, NONE, NONE, NONE, NONE, NONE, NONE, NONE, 60);
        page(run, 4, 0, NONE, NONE, NONE, NONE, NONE, NONE, NONE, NONE);
        run.delete(34);
        page(run, 2, 0, NONE, NONE, NONE, NONE, NONE, NONE, NONE, NONE);
        page(run, 3, 0, NONE, NONE, NONE, NONE, NONE, NONE, NONE, NONE);
        Run full = full();
        page(full, 95, 1, 27, 27, 1, 139, 0, 0, NONE, NONE);
        page(full, 94, 2, NONE, NONE, NONE, NONE, NONE, NONE, NONE, 240);
        page(full, 93, 2, NONE, NONE, NONE, NONE, NONE, NONE, 94, 240);
        page(full, 0, 2, NONE, NONE, NONE, NONE, NONE, NONE, 1, 240);
    }

    private void slotWrong() {
        checks.part("promise 10, 'there is no such page, or slot is below 0'");
        Run run = mixed();
        checks.unchanged("wrong", run, () -> {
            for (int page : new int[] {-1, 96, LEAST, GREATEST}) {
                checks.illegal("slot(" + page + ", 0)", () -> run.slot(page, 0));
                checks.illegal("slot(" + page + ", -1)", () -> run.slot(page, -1));
                checks.illegal("slot(" + page + ", 32)", () -> run.slot(page, 32));
            }
            for (int page : new int[] {0, 2, 4, 95}) {
                checks.illegal("slot(" + page + ", -1)", () -> run.slot(page, -1));
                checks.illegal("slot(" + page + ", the least)", () -> run.slot(page, LEAST));
            }
        });
    }

    private void slotKinds() {
        checks.part("promise 10, 'NONE behind the last one, and if the page has no cells'");
        Run run = mixed();
        int[][] due = {{1, 2, 0, 1, NONE}, {1, 3, 1, NONE, NONE}, {NONE, NONE, NONE, NONE, NONE}};
        for (int page = 0; page < due.length; page++) {
            for (int slot = 0; slot < due[page].length; slot++) {
                checks.is("slot(" + page + ", " + slot + ")", run.slot(page, slot), due[page][slot]);
            }
        }
        for (int page : new int[] {0, 1, 2, 4, 95}) {
            for (int slot : new int[] {5, 31, 32, 33, 64, GREATEST}) {
                checks.is("slot(" + page + ", " + slot + ")", run.slot(page, slot), NONE);
            }
        }
        run.delete(3);
        checks.is("slots behind the last cell are gone", run.slot(0, 2), NONE);
        checks.is("a stub is the last", run.slot(0, 1), 2);
        Run full = full();
        checks.is("the last slot of the last page", full.slot(95, 26), 1);
        checks.is("behind it", full.slot(95, 27), NONE);
    }

    private void totalWrong() {
        checks.part("promise 13, 'IllegalArgumentException'");
        Run run = mixed();
        checks.unchanged("wrong", run, () -> {
            for (int what : new int[] {-1, 8, 9, LEAST, GREATEST}) {
                checks.illegal("total(" + what + ")", () -> run.total(what));
            }
        });
    }

    private void totals(Run run, int... due) {
        for (int what = 0; what <= 7; what++) {
            checks.is("total(" + what + ")", run.total(what), due[what]);
        }
    }

    private void totalEmptyAndFull() {
        checks.part("promise 13, of an empty file and a full one");
        totals(new Run(), 0, 96, 0, 0, 0, 0, 0, 0);
        totals(mixed(), 5, 92, 2, 2, 1, 8, 0, 0);
        Run full = full();
        totals(full, 46, 0, 2, 94, 0, 46, 0, 0);
        full.sync();
        totals(full, 46, 0, 2, 94, 0, 0, 0, 0);
        full.update(3041, 5, 0);
        totals(full, 46, 0, 2, 94, 0, 1, 1, 0);
        full.crash(0);
        totals(full, 46, 0, 2, 94, 0, 0, 1, 1);
        for (int i = 0; i < 46; i++) {
            full.delete(full.next(NONE));
        }
        totals(full, 0, 96, 0, 0, 0, 46, 1, 1);
    }
}
