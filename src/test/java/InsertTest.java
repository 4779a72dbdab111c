/** Promises 1 and 2: a new object, and inserting. */
final class InsertTest {
    private static final int NONE = SlotFile.NONE;
    private final Checks checks = new Checks("InsertTest");

    public static void main(String[] args) {
        InsertTest test = new InsertTest();
        test.newObject();
        test.shortCells();
        test.longCells();
        test.leastClass();
        test.leastNumberInClass();
        test.firstPageWithRoom();
        test.newSlotIsAlwaysTold();
        test.endAndCompacting();
        test.refusals();
        test.chainBeforePlace();
        test.wrongInputs();
        test.checks.finish();
    }

    private void newObject() {
        checks.part("promise 1");
        for (int page = 0; page < 96; page++) {
            Run file = new Run();
            checks.is("kind of page " + page, file.page(page, 0), 0);
            for (int what = 1; what <= 8; what++) {
                checks.is("page(" + page + ", " + what + ")", file.page(page, what), NONE);
            }
            checks.is("slot 0 of page " + page, file.slot(page, 0), NONE);
        }
        Run file = new Run();
        for (int what = 0; what <= 7; what++) {
            checks.is("total(" + what + ")", file.total(what), what == 1 ? 96 : 0);
        }
        checks.is("next", file.next(NONE), NONE);
    }

    private void shortCells() {
        checks.part("promise 2, short");
        int[] lengths = {0, 1, 3, 4, 5, 6, 50, 99, 100};
        int[] takes = {5, 5, 5, 5, 6, 7, 51, 100, 101};
        for (int i = 0; i < lengths.length; i++) {
            Run file = new Run();
            checks.is("record", file.insert(lengths[i], 0), 0);
            checks.is("kind", file.page(0, 0), 1);
            checks.is("room for length " + lengths[i], file.page(0, 3), 244 - takes[i]);
            checks.is("end for length " + lengths[i], file.page(0, 4), takes[i]);
            checks.is("length", file.length(0), lengths[i]);
            checks.is("chain", file.where(0, 2), 0);
            checks.is("first of chain", file.where(0, 3), NONE);
            checks.is("changes", file.total(5), 1);
        }
    }

    private void longCells() {
        checks.part("promise 2, long");
        int[] lengths = {101, 239, 240, 241, 480, 481, 720, 721, 960, 961, 1199, 1200};
        int[] pages = {1, 1, 1, 2, 2, 3, 3, 4, 4, 5, 5, 5};
        for (int i = 0; i < lengths.length; i++) {
            Run file = new Run();
            int chain = pages[i];
            checks.is("record of length " + lengths[i], file.insert(lengths[i], 9), 32 * chain);
            checks.is("chain pages", file.where(32 * chain, 2), chain);
            checks.is("first of chain", file.where(32 * chain, 3), 0);
            checks.is("room", file.page(chain, 3), 235);
            checks.is("end", file.page(chain, 4), 9);
            for (int page = 0; page < chain; page++) {
                boolean last = page == chain - 1;
                checks.is("kind of page " + page, file.page(page, 0), 2);
                checks.is("page behind " + page, file.page(page, 7), last ? NONE : page + 1);
                checks.is("bytes of page " + page, file.page(page, 8), last ? lengths[i] - 240 * page : 240);
            }
            checks.is("pages of chains", file.total(3), chain);
        }
    }

    private void leastClass() {
        checks.part("promise 2, least class");
        Run file = new Run();
        checks.is("1", file.insert(0, 0), 0);
        checks.is("2", file.insert(100, 0), 1);
        checks.is("3", file.insert(100, 0), 2);
        checks.is("4", file.insert(100, 0), 32);
        file.delete(2);
        file.delete(1);
        checks.is("class of page 0", file.page(0, 5), 7);
        checks.is("class of page 1", file.page(1, 5), 4);
        checks.is("the lesser class, not the lesser page", file.insert(0, 0), 33);

        Run just = new Run();
        just.insert(100, 0);
        just.insert(61, 0);
        just.insert(100, 0);
        just.insert(99, 0);
        checks.is("class of page 0", just.page(0, 5), 2);
        checks.is("class of page 1", just.page(1, 5), 1);
        checks.is("31 bytes are just class 1", just.insert(26, 0), 34);
        checks.is("32 bytes are class 2", just.insert(27, 0), 2);

        Run greatest = new Run();
        greatest.insert(100, 0);
        greatest.insert(100, 0);
        greatest.insert(50, 0);
        greatest.update(32, 0, 0);
        checks.is("room of page 0", greatest.page(0, 3), 38);
        checks.is("class of page 1", greatest.page(1, 5), 7);
        checks.is("the greatest class goes before the first page with room", greatest.insert(27, 0), 33);
    }

    private void leastNumberInClass() {
        checks.part("promise 2, least number");
        Run file = new Run();
        file.insert(0, 0);
        file.insert(100, 0);
        file.insert(100, 0);
        file.insert(100, 0);
        file.delete(2);
        checks.is("class of page 0", file.page(0, 5), 4);
        checks.is("class of page 1", file.page(1, 5), 4);
        checks.is("room of page 0 is less", file.page(0, 3) < file.page(1, 3), true);
        checks.is("the lesser page", file.insert(0, 0), 2);
    }

    private void firstPageWithRoom() {
        checks.part("promise 2, first page with room");
        Run file = new Run();
        file.insert(100, 0);
        file.insert(100, 0);
        checks.is("room of page 0", file.page(0, 3), 38);
        checks.is("50 bytes", file.insert(50, 0), 32);
        checks.is("100 bytes", file.insert(100, 0), 33);
        checks.is("room of page 1", file.page(1, 3), 88);
        checks.is("32 bytes are class 2", file.insert(27, 0), 34);
        checks.is("32 bytes fit in class 1 by room", file.insert(27, 0), 2);
        checks.is("room of page 0", file.page(0, 3), 6);
        checks.is("31 bytes are class 1", file.insert(26, 0), 35);
        checks.is("room of page 1", file.page(1, 3), 25);
        checks.is("31 bytes have no room but in a free page", file.insert(26, 0), 64);

        Run just = new Run();
        just.insert(100, 0);
        just.insert(100, 0);
        checks.is("38 bytes are just there", just.insert(33, 0), 2);
        checks.is("room is used up", just.page(0, 3), 0);
        Run short1 = new Run();
        short1.insert(100, 0);
        short1.insert(100, 0);
        checks.is("39 bytes are not there", short1.insert(34, 0), 32);
    }

    /** Page 0 with an empty slot 0, two cells of 101 and room for 34 bytes; its end is 207. */
    private static Run withEmptySlot() {
        Run file = new Run();
        file.insert(0, 0);
        file.insert(100, 0);
        file.insert(100, 0);
        file.delete(0);
        return file;
    }

    private void newSlotIsAlwaysTold() {
        checks.part("promise 2, 4 bytes for the slot");
        Run file = withEmptySlot();
        checks.is("room", file.page(0, 3), 34);
        checks.is("slots", file.page(0, 1), 3);
        checks.is("31 bytes and 4 do not fit", file.insert(30, 0), 32);
        file = withEmptySlot();
        checks.is("30 bytes and 4 fit, in the least slot", file.insert(29, 0), 0);
        checks.is("room behind it", file.page(0, 3), 4);
    }

    private void endAndCompacting() {
        checks.part("promise 2, end");
        Run file = withEmptySlot();
        file.insert(28, 0);
        checks.is("end without compacting", file.page(0, 4), 236);
        checks.is("compacted", file.total(6), 0);
        file = withEmptySlot();
        file.insert(29, 0);
        checks.is("end with compacting", file.page(0, 4), 232);
        checks.is("compacted", file.total(6), 1);

        // The end leaves 10 bytes: a cell of 7 fits there, but not with a slot of its own.
        Run slots = new Run();
        slots.insert(100, 0);
        slots.insert(99, 0);
        slots.insert(24, 0);
        slots.update(2, 0, 0);
        checks.is("end", slots.page(0, 4), 226);
        slots.insert(6, 0);
        checks.is("end behind a new slot", slots.page(0, 4), 213);
        checks.is("compacted for a slot", slots.total(6), 1);
    }

    /** 18 records of 1200 bytes: cells in page 5, where room is 14, and the pages 91 .. 95 free. */
    private static Run nearlyFull() {
        Run file = new Run();
        for (int i = 0; i < 18; i++) {
            file.insert(1200, i);
        }
        return file;
    }

    private void refusals() {
        checks.part("promise 2, refused");
        Run file = nearlyFull();
        checks.is("free pages", file.total(1), 5);
        checks.is("room", file.page(5, 3), 14);
        checks.is("one more", file.insert(1200, 0), 160 + 18);
        checks.is("free pages", file.total(1), 0);
        String before = file.picture();
        checks.is("no place", file.insert(0, 0), NONE);
        checks.is("no chain", file.insert(101, 0), NONE);
        checks.same("nothing changed", file.picture(), before);

        file = nearlyFull();
        file.insert(0, 0);
        before = file.picture();
        checks.is("chain takes all that is free, no place", file.insert(1200, 0), NONE);
        checks.same("nothing changed", file.picture(), before);
        checks.is("a chain of four leaves a place", file.insert(960, 0), 32 * 95);
    }

    private void chainBeforePlace() {
        checks.part("promise 2, chain before place");
        Run file = new Run();
        file.insert(100, 0);
        file.insert(100, 0);
        file.insert(33, 0);
        checks.is("chain in 1 and 2, cell in 3", file.insert(300, 0), 96);
        file.delete(0);
        file.delete(1);
        file.delete(2);
        checks.is("cell in the page that is there", file.insert(700, 0), 97);
        checks.is("chain in 0", file.where(97, 3), 0);
        checks.is("then in 4", file.page(0, 7), 4);
        checks.is("then in 5", file.page(4, 7), 5);
        checks.is("what is left", file.page(5, 8), 220);
    }

    private void wrongInputs() {
        checks.part("promise 2, wrong");
        Run file = new Run();
        file.insert(5, 5);
        String before = file.picture();
        checks.illegal("length -1", () -> file.insert(-1, 0));
        checks.illegal("length 1201", () -> file.insert(1201, 0));
        checks.illegal("least length", () -> file.insert(Integer.MIN_VALUE, 0));
        checks.illegal("greatest length", () -> file.insert(Integer.MAX_VALUE, 0));
        checks.illegal("seed -1", () -> file.insert(0, -1));
        checks.illegal("seed 256", () -> file.insert(0, 256));
        checks.same("nothing changed", file.picture(), before);
        checks.is("seed 255", file.insert(0, 255), 1);
    }
}
