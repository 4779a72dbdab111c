/** The sentences of 'Terms' on places, chains, inserting, updating, deleting and refusing, each at its edges. */
final class PlaceEdgeTest {
    private static final int NONE = SlotFile.NONE;
    private final Checks checks = new Checks("PlaceEdgeTest");

    public static void main(String[] args) {
        PlaceEdgeTest test = new PlaceEdgeTest();
        test.classIsCutOff();
        test.classTimes31();
        test.leastClassThenLeastNumber();
        test.firstPageWithRoom();
        test.freePageOnlyIfNoOther();
        test.fourMoreForASlotThatIsThere();
        test.leastSlot();
        test.lastPage();
        test.chainTakesLeastFreePages();
        test.chainBeforePlace();
        test.chainOfAllFreePages();
        test.chainOfMoreThanAllFreePages();
        test.fullFile();
        test.oldChainIsNotFreeYet();
        test.oldChainIsNoPlaceYet();
        test.pageAwayIsNotFreeYet();
        test.staysOrGoesAway();
        test.comesHomeOrStaysAway();
        test.changedThereOrFurtherAway();
        test.anyOtherPageCounts();
        test.furtherAwayRefused();
        test.neverMoreThanOneStub();
        test.deletingGivesAllBack();
        test.checks.finish();
    }

    private void told(Run run, int page, String due) {
        checks.same("page " + page, run.told(page), due);
    }

    /** Pages 0 .. count - 1 with two cells of 101 bytes each: room is 38. */
    private static Run pairs(int count) {
        return new Run().inserts(2 * count, 100);
    }

    /** Makes the second cell of a page of pairs shorter, so that the page has a room of 38 .. 133. */
    private static Run withRoom(Run run, int page, int room) {
        run.update(32 * page + 1, 138 - room, 0);
        return run;
    }

    private void classIsCutOff() {
        checks.part("'the CLASS of a page is its room / 31 (0 .. 8, cut off)'");
        int[] rooms = {38, 61, 62, 92, 93, 123, 124};
        int[] classes = {1, 1, 2, 2, 3, 3, 4};
        for (int i = 0; i < rooms.length; i++) {
            Run run = withRoom(pairs(1), 0, rooms[i]);
            checks.is("room", run.page(0, 3), rooms[i]);
            checks.is("class for room " + rooms[i], run.page(0, 5), classes[i]);
        }
        int[] lengths = {0, 26, 27, 57, 58, 88, 89};
        int[] greater = {7, 7, 6, 6, 5, 5, 4};
        for (int i = 0; i < lengths.length; i++) {
            Run run = new Run().inserts(1, lengths[i]);
            checks.is("class for a cell of length " + lengths[i], run.page(0, 5), greater[i]);
        }
        Run little = new Run().inserts(1, 100).inserts(1, 98).inserts(1, 0);
        checks.is("room", little.page(0, 3), 31);
        checks.is("class for room 31", little.page(0, 5), 1);
        little.update(1, 99, 0);
        checks.is("class for room 30", little.page(0, 5), 0);
        checks.is("class for room 0", pairs(1).inserts(1, 33).page(0, 5), 0);
    }

    private void classTimes31() {
        checks.part("'Of all pages of cells whose class times 31 is n + 4 or more those of the least class count'");
        int[] greaterRoom = {62, 93, 124};
        int[] lesserRoom = {38, 70, 100};
        for (int c = 1; c <= 3; c++) {
            Run just = withRoom(withRoom(pairs(2), 0, greaterRoom[c - 1]), 1, lesserRoom[c - 1]);
            checks.is("class of page 0", just.page(0, 5), c + 1);
            checks.is("class of page 1", just.page(1, 5), c);
            checks.is("n + 4 is 31 times " + c, just.insert(31 * c - 5, 0), 34);
            Run more = withRoom(withRoom(pairs(2), 0, greaterRoom[c - 1]), 1, lesserRoom[c - 1]);
            checks.is("n + 4 is one more", more.insert(31 * c - 4, 0), 2);
        }
    }

    private void leastClassThenLeastNumber() {
        checks.part("'and of these the one with the least number'");
        checks.is("the same class, page 0 has less room", withRoom(withRoom(pairs(2), 0, 78), 1, 88).insert(57, 0), 2);
        checks.is("the same class, page 0 has more room", withRoom(withRoom(pairs(2), 0, 88), 1, 78).insert(57, 0), 2);
        checks.is("page 1 is of a lesser class", withRoom(withRoom(pairs(2), 0, 93), 1, 92).insert(57, 0), 34);
        checks.is("page 2 is", withRoom(withRoom(withRoom(pairs(3), 0, 93), 1, 93), 2, 62).insert(57, 0), 66);
        checks.is("page 2 is of too little a class", withRoom(withRoom(withRoom(pairs(3), 0, 124), 1, 93), 2, 61)
            .insert(57, 0), 34);
        Run greatest = pairs(1).inserts(1, 50);
        greatest.update(32, 0, 0);
        checks.is("the greatest class that there is", greatest.page(1, 5), 7);
        checks.is("it counts before the first page with room", greatest.insert(27, 0), 33);
    }

    /** Pages 0, 1 and 2 with room 38, 50 and 60: all of class 1. */
    private static Run roomButNoClass() {
        return withRoom(withRoom(pairs(3), 1, 50), 2, 60);
    }

    private void firstPageWithRoom() {
        checks.part("'if there are none, the first page of all that has room n + 4 or more; ... the least free page'");
        int[] lengths = {26, 27, 33, 34, 45, 46, 55, 56};
        int[] records = {2, 2, 2, 34, 34, 66, 66, 96};
        for (int i = 0; i < lengths.length; i++) {
            checks.is("insert of length " + lengths[i], roomButNoClass().insert(lengths[i], 0), records[i]);
        }
        Run run = roomButNoClass();
        run.insert(33, 0);
        checks.is("room used up", run.page(0, 3), 0);
        checks.is("class", run.page(0, 5), 0);
        checks.is("then the next one", run.insert(33, 0), 34);
    }

    private void freePageOnlyIfNoOther() {
        checks.part("'if there is none either, the least free page'");
        Run run = new Run().inserts(5, 100);
        for (int record : new int[] {0, 1, 32, 33}) {
            run.delete(record);
        }
        checks.is("free pages", run.total(1), 95);
        checks.is("page 2 has room", run.insert(100, 0), 65);
        checks.is("page 2 has room for 38", run.insert(33, 0), 66);
        checks.is("no page has room", run.insert(0, 0), 0);
        checks.is("page 0 has room", run.insert(100, 0), 1);
        checks.is("page 0 has room", run.insert(100, 0), 2);
        checks.is("no page has room, page 1 is the least", run.insert(100, 0), 32);
        checks.is("free pages", run.total(1), 93);
    }

    private void fourMoreForASlotThatIsThere() {
        checks.part("'a new slot told with 4', if an empty slot is used too");
        Run fits = new Run().inserts(1, 0).inserts(2, 100);
        fits.delete(0);
        checks.is("room", fits.page(0, 3), 34);
        checks.is("30 and 4", fits.insert(29, 0), 0);
        told(fits, 0, "slots 3, cells 3, room 4, end 232, stubs 0");
        Run over = new Run().inserts(1, 0).inserts(2, 100);
        over.delete(0);
        checks.is("31 and 4", over.insert(30, 0), 32);
    }

    private void leastSlot() {
        checks.part("'In the page it gets the least slot without a cell'");
        Run run = new Run().inserts(5, 0);
        run.delete(3);
        run.delete(0);
        run.delete(1);
        int[] due = {0, 1, 3, 5};
        for (int record : due) {
            checks.is("insert", run.insert(0, 0), record);
        }
    }

    private void lastPage() {
        checks.part("'PAGES 0 .. 95': the last one is used, and there is none behind it");
        Run run = pairs(95);
        checks.is("free pages", run.total(1), 1);
        checks.is("page 95 is free", run.page(95, 0), 0);
        checks.is("its first record", run.insert(100, 0), 95 * 32);
        checks.is("no page is free", run.total(1), 0);
        checks.is("its second record", run.insert(100, 0), 95 * 32 + 1);
        checks.unchanged("no place for 101 bytes", run, () -> checks.is("refused", run.insert(100, 0), NONE));
        checks.is("no place for 35 bytes", run.insert(34, 0), NONE);
        checks.is("a place for 34", run.insert(33, 0), 2);
        checks.is("records", run.total(0), 193);
        checks.is("the last record", run.next(3040), 3041);
        checks.is("behind it", run.next(3041), NONE);
    }

    private void chainTakesLeastFreePages() {
        checks.part("'Chains take the least free pages, one by one'");
        Run run = new Run().inserts(4, 101);
        checks.same("the second", run.place(33), "1.1 chain of 1 from 2");
        run.delete(33);
        run.delete(35);
        told(run, 2, "free");
        told(run, 4, "free");
        checks.is("four pages", run.insert(721, 0), 33);
        checks.same("from the least one", run.place(33), "1.1 chain of 4 from 2");
        told(run, 2, "chain, next 4, bytes 240");
        told(run, 3, "chain, next -1, bytes 101");
        told(run, 4, "chain, next 5, bytes 240");
        told(run, 5, "chain, next 6, bytes 240");
        told(run, 6, "chain, next -1, bytes 1");
        run.delete(33);
        checks.is("one page, which was followed by another", run.insert(101, 0), 33);
        told(run, 2, "chain, next -1, bytes 101");
    }

    private void chainBeforePlace() {
        checks.part("'before a place is looked for'");
        Run run = new Run();
        checks.is("the chain has page 0", run.insert(101, 0), 32);
        Run away = pairs(1).inserts(1, 33);
        told(away, 0, "slots 3, cells 3, room 0, end 236, stubs 0");
        away.update(2, 0, 0);
        away.insert(24, 0);
        told(away, 0, "slots 4, cells 4, room 0, end 232, stubs 0");
        checks.is("away with a chain", away.update(2, 241, 0), true);
        checks.same("the chain has pages 1 and 2", away.place(2), "3.0 chain of 2 from 1");
    }

    /** 18 records of 1200 bytes with their cells in page 5, room 14; the pages 91 .. 95 are free. */
    private static Run fiveFree() {
        return new Run().inserts(18, 1200);
    }

    private void chainOfAllFreePages() {
        checks.part("a chain that takes all free pages");
        Run run = fiveFree();
        told(run, 5, "slots 18, cells 18, room 14, end 162, stubs 0");
        checks.is("free pages", run.total(1), 5);
        checks.is("its cell has a place", run.insert(1200, 7), 178);
        checks.is("free pages", run.total(1), 0);
        told(run, 5, "slots 19, cells 19, room 1, end 171, stubs 0");
        checks.is("the last byte", run.byteAt(178, 1199), (7 + 7 * 1199 + 74) % 256);

        Run none = fiveFree().inserts(1, 0);
        told(none, 5, "slots 19, cells 19, room 5, end 167, stubs 0");
        checks.unchanged("its cell has none", none, () -> {
            checks.is("5 pages", none.insert(1200, 0), NONE);
            checks.is("5 pages", none.insert(961, 0), NONE);
        });
        checks.is("4 pages leave one", none.insert(960, 0), 95 * 32);
        checks.same("chain", none.place(95 * 32), "95.0 chain of 4 from 91");
        checks.is("free pages", none.total(1), 0);
    }

    private void chainOfMoreThanAllFreePages() {
        checks.part("'no free pages for its chain'");
        Run run = fiveFree();
        run.delete(160);
        run.insert(240, 0);
        run.insert(0, 0);
        checks.is("free pages", run.total(1), 9);
        run.inserts(1, 960);
        checks.is("free pages", run.total(1), 4);
        checks.is("class of the page of its cell", run.page(91, 5), 7);
        checks.unchanged("5 pages of 4", run, () -> checks.is("refused", run.insert(961, 0), NONE));
        checks.is("4 pages of 4", run.insert(960, 0), 91 * 32 + 1);
        checks.is("free pages", run.total(1), 0);
        checks.unchanged("1 page of none", run, () -> checks.is("refused", run.insert(101, 0), NONE));
        checks.is("no chain", run.insert(100, 0), 91 * 32 + 2);
    }

    /** No page is free; page 5 has room 5 behind 18 cells of 9 and one of 5, page 95 room 1 behind 9 and 26 times 5. */
    private static Run full() {
        return fiveFree().inserts(1, 0).inserts(1, 960).inserts(26, 0);
    }

    private void fullFile() {
        checks.part("'What has no place, or no free pages for its chain, is refused: nothing changes'");
        Run run = full();
        told(run, 5, "slots 19, cells 19, room 5, end 167, stubs 0");
        told(run, 95, "slots 27, cells 27, room 1, end 139, stubs 0");
        checks.is("records", run.total(0), 46);
        checks.unchanged("inserts", run, () -> {
            checks.is("the least value", run.insert(0, 0), NONE);
            checks.is("the longest short one", run.insert(100, 0), NONE);
            checks.is("the shortest long one", run.insert(101, 0), NONE);
            checks.is("the longest", run.insert(1200, 0), NONE);
        });
        checks.unchanged("updates", run, () -> {
            checks.is("a byte too many", run.update(3041, 6, 1), false);
            checks.is("a chain", run.update(3041, 101, 1), false);
            checks.is("as long a chain", run.update(160, 1200, 1), false);
            checks.is("a shorter chain", run.update(160, 101, 1), false);
        });
        checks.is("changes", run.total(5), 46);
        checks.is("what room is there", run.update(3041, 5, 1), true);
        told(run, 95, "slots 27, cells 27, room 0, end 140, stubs 0");
        checks.is("no more", run.update(3042, 5, 1), false);
        checks.is("a delete", run.delete(3042), 0);
        checks.is("room", run.page(95, 3), 5);
        checks.is("its place needs 4 more", run.insert(0, 0), NONE);
        checks.is("another one, the last", run.delete(3066), 0);
        checks.is("room", run.page(95, 3), 14);
        checks.is("its place is there again", run.insert(0, 0), 3042);
        checks.is("and then one more", run.insert(0, 0), 3066);
        checks.is("but no third", run.insert(0, 0), NONE);
    }

    private void oldChainIsNotFreeYet() {
        checks.part("'chains of the old value are freed behind the new one's being taken'");
        Run five = fiveFree();
        checks.is("5 pages of 5", five.update(160, 1200, 9), true);
        checks.same("new chain", five.place(160), "5.0 chain of 5 from 91");
        checks.is("free pages", five.total(1), 5);
        for (int page = 0; page < 5; page++) {
            told(five, page, "free");
        }
        checks.is("back again", five.update(160, 961, 9), true);
        checks.same("new chain", five.place(160), "5.0 chain of 5 from 0");
        told(five, 4, "chain, next -1, bytes 1");

        Run four = fiveFree().inserts(1, 101);
        checks.is("free pages", four.total(1), 4);
        checks.unchanged("5 pages of 4", four, () -> checks.is("refused", four.update(160, 1200, 9), false));
        checks.is("its seed", four.byteAt(160, 0), 0);
        checks.is("4 pages of 4", four.update(160, 960, 9), true);
        checks.same("new chain", four.place(160), "5.0 chain of 4 from 92");
        checks.is("free pages", four.total(1), 5);
        checks.is("its seed", four.byteAt(160, 0), 9);
    }

    private void oldChainIsNoPlaceYet() {
        checks.part("'a page that its change will free is not free yet', for a place");
        Run run = full();
        checks.unchanged("15 bytes for 9 with room 5", run, () -> checks.is("refused", run.update(160, 14, 3), false));
        checks.is("its length", run.length(160), 1200);
        checks.is("14 bytes for 9 with room 5", run.update(160, 13, 3), true);
        checks.is("free pages", run.total(1), 5);
        checks.is("now there is a place", run.update(160, 14, 3), true);
        checks.same("away", run.place(160), "0.0");
    }

    /**
     * Page 0 without room: 0 (a stub), 1, 2 and 3, of which 3 takes 25 bytes; the value of 0 alone in page 95
     * with 45 bytes; page 6 with 19 long values and room 1; no page is free.
     */
    private static Run aloneInPage95() {
        Run run = new Run().inserts(1, 0).inserts(2, 100).inserts(1, 24).inserts(18, 1200).inserts(1, 720);
        run.update(0, 40, 5);
        return run;
    }

    private void pageAwayIsNotFreeYet() {
        checks.part("'a page that its change will free is not free yet', where a value is away");
        Run run = aloneInPage95();
        checks.same("away", run.place(0), "95.0");
        checks.is("free pages", run.total(1), 0);
        run.delete(3);
        told(run, 0, "slots 3, cells 3, room 29, end 232, stubs 1");
        checks.unchanged("home with a chain", run, () -> checks.is("refused", run.update(0, 101, 6), false));
        checks.is("home without", run.update(0, 33, 6), true);
        told(run, 95, "free");
        checks.is("the chain has a page now", run.update(0, 240, 6), true);
        checks.same("chain", run.place(0), "0.0 chain of 1 from 95");
        checks.unchanged("not for its own successor", run, () -> checks.is("refused", run.update(0, 101, 6), false));
    }

    private void staysOrGoesAway() {
        checks.part("'if its page has room for the new cell in place of the old one, it stays'");
        Run stays = new Run().inserts(1, 50).inserts(1, 100).inserts(1, 60);
        checks.is("room", stays.page(0, 3), 23);
        checks.is("74 bytes for 51 with room 23", stays.update(0, 73, 0), true);
        checks.same("stays", stays.place(0), "0.0");
        told(stays, 0, "slots 3, cells 3, room 0, end 236, stubs 0");
        checks.is("away records", stays.total(4), 0);
        Run goes = new Run().inserts(1, 50).inserts(1, 100).inserts(1, 60);
        checks.is("75 bytes for 51 with room 23", goes.update(0, 74, 0), true);
        checks.same("goes away", goes.place(0), "1.0");
        told(goes, 0, "slots 3, cells 3, room 69, end 213, stubs 1");
        told(goes, 1, "slots 1, cells 1, room 165, end 79, stubs 0");
        checks.is("away records", goes.total(4), 1);
        checks.is("records", goes.total(0), 3);
    }

    /** Records 0 (a stub), 1 and 2 in page 0 with room 29; in page 1 the value of 0 (45 bytes), 33 and 34, room 4. */
    private static Run away() {
        Run run = new Run().inserts(1, 0).inserts(2, 100);
        run.update(0, 40, 1);
        return run.inserts(1, 100).inserts(1, 85);
    }

    private void comesHomeOrStaysAway() {
        checks.part("'if its home's page has room for the cell in place of the stub, it comes home'");
        Run comes = away();
        checks.is("34 bytes for 5 with room 29", comes.update(0, 33, 2), true);
        checks.same("home", comes.place(0), "0.0");
        told(comes, 0, "slots 3, cells 3, room 0, end 236, stubs 0");
        told(comes, 1, "slots 3, cells 2, room 49, end 232, stubs 0");
        checks.is("away records", comes.total(4), 0);
        Run stays = away();
        checks.is("35 bytes for 5 with room 29", stays.update(0, 34, 2), true);
        checks.same("away", stays.place(0), "1.0");
        told(stays, 0, "slots 3, cells 3, room 29, end 207, stubs 1");
        told(stays, 1, "slots 3, cells 3, room 10, end 232, stubs 0");
        checks.is("away records", stays.total(4), 1);
    }

    private void changedThereOrFurtherAway() {
        checks.part("'otherwise, if the page where it is has room for it there, it is changed there'");
        Run there = away();
        checks.is("49 bytes for 45 with room 4", there.update(0, 44, 2), true);
        checks.same("there", there.place(0), "1.0");
        told(there, 1, "slots 3, cells 3, room 0, end 236, stubs 0");
        Run further = away();
        checks.is("50 bytes for 45 with room 4", further.update(0, 45, 2), true);
        checks.same("further away", further.place(0), "2.0");
        told(further, 0, "slots 3, cells 3, room 29, end 207, stubs 1");
        told(further, 1, "slots 3, cells 2, room 49, end 232, stubs 0");
        told(further, 2, "slots 1, cells 1, room 194, end 50, stubs 0");
        checks.is("away records", further.total(4), 1);
        checks.is("its byte", further.byteAt(0, 44), (2 + 7 * 44 + 2) % 256);
        Run second = away().inserts(1, 100);
        checks.is("to a page with a cell", second.update(0, 45, 2), true);
        checks.same("in its second slot", second.place(0), "2.1");
        checks.is("its length", second.length(0), 45);
    }

    private void anyOtherPageCounts() {
        checks.part("'neither in its home's page nor in the one where it is': every other page may be the place");
        Run away = withRoom(pairs(65).inserts(1, 33), 64, 62);
        checks.is("away", away.update(2, 34, 0), true);
        checks.same("from page 0 to page 64", away.place(2), "64.2");

        Run further = withRoom(pairs(65).inserts(1, 33), 1, 62);
        further.update(2, 34, 0);
        checks.same("from page 0 to page 1", further.place(2), "1.2");
        withRoom(further, 64, 93).update(2, 54, 0);
        checks.same("from page 1 to page 64", further.place(2), "64.2");

        Run lesser = pairs(65).inserts(2, 33);
        lesser.delete(2);
        withRoom(lesser, 0, 62).update(34, 34, 0);
        checks.same("from page 1 to page 0", lesser.place(34), "0.2");
        withRoom(lesser, 64, 93).update(34, 54, 0);
        checks.same("from page 0 to page 64", lesser.place(34), "64.2");
    }

    private void furtherAwayRefused() {
        checks.part("'otherwise it goes to another place away', if there is one");
        Run run = away().inserts(18, 1200).inserts(1, 700);
        checks.is("free pages", run.total(1), 0);
        checks.unchanged("no place further away", run, () -> checks.is("refused", run.update(0, 45, 2), false));
        checks.is("its length", run.length(0), 40);
        checks.is("its seed", run.byteAt(0, 0), 1);
        checks.is("changed there", run.update(0, 44, 2), true);
        checks.same("there", run.place(0), "1.0");
        checks.is("its page gets room", run.delete(34), 85);
        checks.is("changed there again", run.update(0, 100, 2), true);
        checks.same("there", run.place(0), "1.0");
    }

    private void neverMoreThanOneStub() {
        checks.part("'never more than one stub between'");
        Run run = away();
        run.update(0, 60, 2);
        checks.same("away in page 2", run.place(0), "2.0");
        run.inserts(1, 100).inserts(1, 60);
        told(run, 2, "slots 3, cells 3, room 9, end 227, stubs 0");
        run.update(0, 80, 3);
        checks.same("away in page 3", run.place(0), "3.0");
        checks.is("slot of page 0", run.slot(0, 0), 2);
        checks.is("slot of page 1", run.slot(1, 0), 0);
        checks.is("slot of page 2", run.slot(2, 0), 0);
        checks.is("slot of page 3", run.slot(3, 0), 3);
        checks.is("away records", run.total(4), 1);
        checks.is("its length", run.length(0), 80);
        checks.is("delete", run.delete(0), 80);
        checks.is("page 3", run.page(3, 0), 0);
        checks.is("away records", run.total(4), 0);
    }

    private void deletingGivesAllBack() {
        checks.part("'DELETING takes both cells and chains'");
        Run run = full();
        checks.is("length", run.delete(160), 1200);
        checks.is("free pages", run.total(1), 5);
        checks.is("its slot", run.slot(5, 0), 0);
        told(run, 5, "slots 19, cells 18, room 14, end 167, stubs 0");
        checks.is("a place for the same once more", run.insert(1200, 3), 160);
        checks.same("chain", run.place(160), "5.0 chain of 5 from 0");
        checks.is("full again", run.insert(0, 0), NONE);

        Run all = aloneInPage95();
        int records = all.total(0);
        for (int i = 0; i < records; i++) {
            all.delete(all.next(NONE));
        }
        checks.is("all pages are free", all.total(1), 96);
        checks.is("no record", all.next(NONE), NONE);
        checks.is("the first one again", all.insert(0, 0), 0);
    }
}
